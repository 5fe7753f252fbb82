section
-- ===== PART A: goes FIRST, ahead of the names: the tables' words, and 'selects' of the private methods out of them =====
/-- a private method of a class that the tables say can be made, by its rows of tables_1 -/
def lw_okq (q : MethodName × Nat) : Prop := (q.1.cls ≠ "java/lang/invoke/MethodHandle" ∧ q.1.cls ≠ "java/lang/invoke/VarHandle") ∧ Cond.instantiable q.1.cls q.2 ∈ tables_1 ∧ Cond.privateMethod q.1 ∈ tables_1 ∧ Cond.instanceMethod q.1 ∈ tables_1
theorem lw_p0 : lw_okq (⟨"GrainHost$Method", "add", "(III)V"⟩, 6) := ⟨⟨by decide +kernel, by decide +kernel⟩, List.mem_of_getElem? (i := 138) (by decide +kernel), List.mem_of_getElem? (i := 323) (by decide +kernel), List.mem_of_getElem? (i := 324) (by decide +kernel)⟩
theorem lw_p1 : lw_okq (⟨"GrainHost$Requests", "isFull", "()Z"⟩, 3) := ⟨⟨by decide +kernel, by decide +kernel⟩, List.mem_of_getElem? (i := 26) (by decide +kernel), List.mem_of_getElem? (i := 339) (by decide +kernel), List.mem_of_getElem? (i := 340) (by decide +kernel)⟩
theorem lw_p2 : lw_okq (⟨"GrainHost", "make", "(LGrainHost$Grain;III)LGrainHost$Request;"⟩, 14) := ⟨⟨by decide +kernel, by decide +kernel⟩, List.mem_of_getElem? (i := 12) (by decide +kernel), List.mem_of_getElem? (i := 343) (by decide +kernel), List.mem_of_getElem? (i := 344) (by decide +kernel)⟩
theorem lw_p3 : lw_okq (⟨"GrainHost$Requests", "add", "(LGrainHost$Grain;III)LGrainHost$Request;"⟩, 3) := ⟨⟨by decide +kernel, by decide +kernel⟩, List.mem_of_getElem? (i := 26) (by decide +kernel), List.mem_of_getElem? (i := 347) (by decide +kernel), List.mem_of_getElem? (i := 348) (by decide +kernel)⟩
theorem lw_p4 : lw_okq (⟨"GrainHost$Request", "begin", "(ILGrainHost$Grain;III)V"⟩, 14) := ⟨⟨by decide +kernel, by decide +kernel⟩, List.mem_of_getElem? (i := 33) (by decide +kernel), List.mem_of_getElem? (i := 351) (by decide +kernel), List.mem_of_getElem? (i := 352) (by decide +kernel)⟩
theorem lw_p5 : lw_okq (⟨"GrainHost$Request", "awaitNothing", "()V"⟩, 14) := ⟨⟨by decide +kernel, by decide +kernel⟩, List.mem_of_getElem? (i := 33) (by decide +kernel), List.mem_of_getElem? (i := 355) (by decide +kernel), List.mem_of_getElem? (i := 356) (by decide +kernel)⟩
theorem lw_p6 : lw_okq (⟨"GrainHost$Line", "add", "(I)V"⟩, 3) := ⟨⟨by decide +kernel, by decide +kernel⟩, List.mem_of_getElem? (i := 113) (by decide +kernel), List.mem_of_getElem? (i := 359) (by decide +kernel), List.mem_of_getElem? (i := 360) (by decide +kernel)⟩
theorem lw_p7 : lw_okq (⟨"GrainHost", "lookAt", "(LGrainHost$Grain;)V"⟩, 14) := ⟨⟨by decide +kernel, by decide +kernel⟩, List.mem_of_getElem? (i := 12) (by decide +kernel), List.mem_of_getElem? (i := 363) (by decide +kernel), List.mem_of_getElem? (i := 364) (by decide +kernel)⟩
theorem lw_p8 : lw_okq (⟨"GrainHost$Requests", "mayBegin", "(LGrainHost$Request;)Z"⟩, 3) := ⟨⟨by decide +kernel, by decide +kernel⟩, List.mem_of_getElem? (i := 26) (by decide +kernel), List.mem_of_getElem? (i := 367) (by decide +kernel), List.mem_of_getElem? (i := 368) (by decide +kernel)⟩
theorem lw_p9 : lw_okq (⟨"GrainHost$Outside", "open", "(I)V"⟩, 4) := ⟨⟨by decide +kernel, by decide +kernel⟩, List.mem_of_getElem? (i := 236) (by decide +kernel), List.mem_of_getElem? (i := 371) (by decide +kernel), List.mem_of_getElem? (i := 372) (by decide +kernel)⟩
theorem lw_p10 : lw_okq (⟨"GrainHost$Line", "take", "()I"⟩, 3) := ⟨⟨by decide +kernel, by decide +kernel⟩, List.mem_of_getElem? (i := 113) (by decide +kernel), List.mem_of_getElem? (i := 383) (by decide +kernel), List.mem_of_getElem? (i := 384) (by decide +kernel)⟩
theorem lw_p11 : lw_okq (⟨"GrainHost", "arrive", "(LGrainHost$Grain;)V"⟩, 14) := ⟨⟨by decide +kernel, by decide +kernel⟩, List.mem_of_getElem? (i := 12) (by decide +kernel), List.mem_of_getElem? (i := 387) (by decide +kernel), List.mem_of_getElem? (i := 388) (by decide +kernel)⟩
theorem lw_p12 : lw_okq (⟨"GrainHost", "storeWorks", "()Z"⟩, 14) := ⟨⟨by decide +kernel, by decide +kernel⟩, List.mem_of_getElem? (i := 12) (by decide +kernel), List.mem_of_getElem? (i := 391) (by decide +kernel), List.mem_of_getElem? (i := 392) (by decide +kernel)⟩
theorem lw_p13 : lw_okq (⟨"GrainHost$Grain", "vanish", "()V"⟩, 11) := ⟨⟨by decide +kernel, by decide +kernel⟩, List.mem_of_getElem? (i := 184) (by decide +kernel), List.mem_of_getElem? (i := 395) (by decide +kernel), List.mem_of_getElem? (i := 396) (by decide +kernel)⟩
theorem lw_p14 : lw_okq (⟨"GrainHost", "failWaiting", "(LGrainHost$Grain;)V"⟩, 14) := ⟨⟨by decide +kernel, by decide +kernel⟩, List.mem_of_getElem? (i := 12) (by decide +kernel), List.mem_of_getElem? (i := 399) (by decide +kernel), List.mem_of_getElem? (i := 400) (by decide +kernel)⟩
theorem lw_p15 : lw_okq (⟨"GrainHost", "copyByNumber", "()I"⟩, 14) := ⟨⟨by decide +kernel, by decide +kernel⟩, List.mem_of_getElem? (i := 12) (by decide +kernel), List.mem_of_getElem? (i := 403) (by decide +kernel), List.mem_of_getElem? (i := 404) (by decide +kernel)⟩
def lw_privs_1 : List (MethodName × Nat) := [(⟨"GrainHost$Method", "add", "(III)V"⟩, 6), (⟨"GrainHost$Requests", "isFull", "()Z"⟩, 3), (⟨"GrainHost", "make", "(LGrainHost$Grain;III)LGrainHost$Request;"⟩, 14), (⟨"GrainHost$Requests", "add", "(LGrainHost$Grain;III)LGrainHost$Request;"⟩, 3), (⟨"GrainHost$Request", "begin", "(ILGrainHost$Grain;III)V"⟩, 14), (⟨"GrainHost$Request", "awaitNothing", "()V"⟩, 14), (⟨"GrainHost$Line", "add", "(I)V"⟩, 3), (⟨"GrainHost", "lookAt", "(LGrainHost$Grain;)V"⟩, 14), (⟨"GrainHost$Requests", "mayBegin", "(LGrainHost$Request;)Z"⟩, 3), (⟨"GrainHost$Outside", "open", "(I)V"⟩, 4), (⟨"GrainHost$Line", "take", "()I"⟩, 3), (⟨"GrainHost", "arrive", "(LGrainHost$Grain;)V"⟩, 14), (⟨"GrainHost", "storeWorks", "()Z"⟩, 14), (⟨"GrainHost$Grain", "vanish", "()V"⟩, 11), (⟨"GrainHost", "failWaiting", "(LGrainHost$Grain;)V"⟩, 14), (⟨"GrainHost", "copyByNumber", "()I"⟩, 14)]
theorem lw_r1 : ∀ q ∈ lw_privs_1, lw_okq q := List.forall_mem_cons.mpr ⟨lw_p0, List.forall_mem_cons.mpr ⟨lw_p1, List.forall_mem_cons.mpr ⟨lw_p2, List.forall_mem_cons.mpr ⟨lw_p3, List.forall_mem_cons.mpr ⟨lw_p4, List.forall_mem_cons.mpr ⟨lw_p5, List.forall_mem_cons.mpr ⟨lw_p6, List.forall_mem_cons.mpr ⟨lw_p7, List.forall_mem_cons.mpr ⟨lw_p8, List.forall_mem_cons.mpr ⟨lw_p9, List.forall_mem_cons.mpr ⟨lw_p10, List.forall_mem_cons.mpr ⟨lw_p11, List.forall_mem_cons.mpr ⟨lw_p12, List.forall_mem_cons.mpr ⟨lw_p13, List.forall_mem_cons.mpr ⟨lw_p14, List.forall_mem_cons.mpr ⟨lw_p15, fun _ h => absurd h List.not_mem_nil⟩⟩⟩⟩⟩⟩⟩⟩⟩⟩⟩⟩⟩⟩⟩⟩
theorem lw_p16 : lw_okq (⟨"GrainHost", "end", "(LGrainHost$Request;II)V"⟩, 14) := ⟨⟨by decide +kernel, by decide +kernel⟩, List.mem_of_getElem? (i := 12) (by decide +kernel), List.mem_of_getElem? (i := 407) (by decide +kernel), List.mem_of_getElem? (i := 408) (by decide +kernel)⟩
theorem lw_p17 : lw_okq (⟨"GrainHost$Requests", "remove", "(LGrainHost$Request;)V"⟩, 3) := ⟨⟨by decide +kernel, by decide +kernel⟩, List.mem_of_getElem? (i := 26) (by decide +kernel), List.mem_of_getElem? (i := 411) (by decide +kernel), List.mem_of_getElem? (i := 412) (by decide +kernel)⟩
theorem lw_p18 : lw_okq (⟨"GrainHost", "tellCaller", "(LGrainHost$Request;II)LGrainHost$Request;"⟩, 14) := ⟨⟨by decide +kernel, by decide +kernel⟩, List.mem_of_getElem? (i := 12) (by decide +kernel), List.mem_of_getElem? (i := 415) (by decide +kernel), List.mem_of_getElem? (i := 416) (by decide +kernel)⟩
theorem lw_p19 : lw_okq (⟨"GrainHost", "goOn", "(LGrainHost$Request;II)Z"⟩, 14) := ⟨⟨by decide +kernel, by decide +kernel⟩, List.mem_of_getElem? (i := 12) (by decide +kernel), List.mem_of_getElem? (i := 419) (by decide +kernel), List.mem_of_getElem? (i := 420) (by decide +kernel)⟩
theorem lw_p20 : lw_okq (⟨"GrainHost$Request", "catches", "(I)Z"⟩, 14) := ⟨⟨by decide +kernel, by decide +kernel⟩, List.mem_of_getElem? (i := 33) (by decide +kernel), List.mem_of_getElem? (i := 424) (by decide +kernel), List.mem_of_getElem? (i := 425) (by decide +kernel)⟩
theorem lw_p21 : lw_okq (⟨"GrainHost$Outside", "tell", "(II)V"⟩, 4) := ⟨⟨by decide +kernel, by decide +kernel⟩, List.mem_of_getElem? (i := 236) (by decide +kernel), List.mem_of_getElem? (i := 428) (by decide +kernel), List.mem_of_getElem? (i := 429) (by decide +kernel)⟩
theorem lw_p22 : lw_okq (⟨"GrainHost", "settle", "(LGrainHost$Grain;)V"⟩, 14) := ⟨⟨by decide +kernel, by decide +kernel⟩, List.mem_of_getElem? (i := 12) (by decide +kernel), List.mem_of_getElem? (i := 432) (by decide +kernel), List.mem_of_getElem? (i := 433) (by decide +kernel)⟩
theorem lw_p23 : lw_okq (⟨"GrainHost$Requests", "noneAt", "(LGrainHost$Grain;)Z"⟩, 3) := ⟨⟨by decide +kernel, by decide +kernel⟩, List.mem_of_getElem? (i := 26) (by decide +kernel), List.mem_of_getElem? (i := 436) (by decide +kernel), List.mem_of_getElem? (i := 437) (by decide +kernel)⟩
theorem lw_p24 : lw_okq (⟨"GrainHost", "go", "(LGrainHost$Grain;)V"⟩, 14) := ⟨⟨by decide +kernel, by decide +kernel⟩, List.mem_of_getElem? (i := 12) (by decide +kernel), List.mem_of_getElem? (i := 440) (by decide +kernel), List.mem_of_getElem? (i := 441) (by decide +kernel)⟩
theorem lw_p25 : lw_okq (⟨"GrainHost", "store", "(LGrainHost$Grain;)Z"⟩, 14) := ⟨⟨by decide +kernel, by decide +kernel⟩, List.mem_of_getElem? (i := 12) (by decide +kernel), List.mem_of_getElem? (i := 444) (by decide +kernel), List.mem_of_getElem? (i := 445) (by decide +kernel)⟩
theorem lw_p26 : lw_okq (⟨"GrainHost$Grain", "come", "()V"⟩, 11) := ⟨⟨by decide +kernel, by decide +kernel⟩, List.mem_of_getElem? (i := 184) (by decide +kernel), List.mem_of_getElem? (i := 448) (by decide +kernel), List.mem_of_getElem? (i := 449) (by decide +kernel)⟩
theorem lw_p27 : lw_okq (⟨"GrainHost$Requests", "find", "(I)LGrainHost$Request;"⟩, 3) := ⟨⟨by decide +kernel, by decide +kernel⟩, List.mem_of_getElem? (i := 26) (by decide +kernel), List.mem_of_getElem? (i := 453) (by decide +kernel), List.mem_of_getElem? (i := 454) (by decide +kernel)⟩
theorem lw_p28 : lw_okq (⟨"GrainHost", "doSteps", "(LGrainHost$Request;)V"⟩, 14) := ⟨⟨by decide +kernel, by decide +kernel⟩, List.mem_of_getElem? (i := 12) (by decide +kernel), List.mem_of_getElem? (i := 457) (by decide +kernel), List.mem_of_getElem? (i := 458) (by decide +kernel)⟩
theorem lw_p29 : lw_okq (⟨"GrainHost", "doStep", "(LGrainHost$Request;III)I"⟩, 14) := ⟨⟨by decide +kernel, by decide +kernel⟩, List.mem_of_getElem? (i := 12) (by decide +kernel), List.mem_of_getElem? (i := 461) (by decide +kernel), List.mem_of_getElem? (i := 462) (by decide +kernel)⟩
theorem lw_p30 : lw_okq (⟨"GrainHost", "sendCall", "(LGrainHost$Request;LGrainHost$Grain;I)I"⟩, 14) := ⟨⟨by decide +kernel, by decide +kernel⟩, List.mem_of_getElem? (i := 12) (by decide +kernel), List.mem_of_getElem? (i := 465) (by decide +kernel), List.mem_of_getElem? (i := 466) (by decide +kernel)⟩
theorem lw_p31 : lw_okq (⟨"GrainHost$Request", "await", "(LGrainHost$Request;)V"⟩, 14) := ⟨⟨by decide +kernel, by decide +kernel⟩, List.mem_of_getElem? (i := 33) (by decide +kernel), List.mem_of_getElem? (i := 469) (by decide +kernel), List.mem_of_getElem? (i := 470) (by decide +kernel)⟩
def lw_privs_2 : List (MethodName × Nat) := [(⟨"GrainHost", "end", "(LGrainHost$Request;II)V"⟩, 14), (⟨"GrainHost$Requests", "remove", "(LGrainHost$Request;)V"⟩, 3), (⟨"GrainHost", "tellCaller", "(LGrainHost$Request;II)LGrainHost$Request;"⟩, 14), (⟨"GrainHost", "goOn", "(LGrainHost$Request;II)Z"⟩, 14), (⟨"GrainHost$Request", "catches", "(I)Z"⟩, 14), (⟨"GrainHost$Outside", "tell", "(II)V"⟩, 4), (⟨"GrainHost", "settle", "(LGrainHost$Grain;)V"⟩, 14), (⟨"GrainHost$Requests", "noneAt", "(LGrainHost$Grain;)Z"⟩, 3), (⟨"GrainHost", "go", "(LGrainHost$Grain;)V"⟩, 14), (⟨"GrainHost", "store", "(LGrainHost$Grain;)Z"⟩, 14), (⟨"GrainHost$Grain", "come", "()V"⟩, 11), (⟨"GrainHost$Requests", "find", "(I)LGrainHost$Request;"⟩, 3), (⟨"GrainHost", "doSteps", "(LGrainHost$Request;)V"⟩, 14), (⟨"GrainHost", "doStep", "(LGrainHost$Request;III)I"⟩, 14), (⟨"GrainHost", "sendCall", "(LGrainHost$Request;LGrainHost$Grain;I)I"⟩, 14), (⟨"GrainHost$Request", "await", "(LGrainHost$Request;)V"⟩, 14)]
theorem lw_r2 : ∀ q ∈ lw_privs_2, lw_okq q := List.forall_mem_cons.mpr ⟨lw_p16, List.forall_mem_cons.mpr ⟨lw_p17, List.forall_mem_cons.mpr ⟨lw_p18, List.forall_mem_cons.mpr ⟨lw_p19, List.forall_mem_cons.mpr ⟨lw_p20, List.forall_mem_cons.mpr ⟨lw_p21, List.forall_mem_cons.mpr ⟨lw_p22, List.forall_mem_cons.mpr ⟨lw_p23, List.forall_mem_cons.mpr ⟨lw_p24, List.forall_mem_cons.mpr ⟨lw_p25, List.forall_mem_cons.mpr ⟨lw_p26, List.forall_mem_cons.mpr ⟨lw_p27, List.forall_mem_cons.mpr ⟨lw_p28, List.forall_mem_cons.mpr ⟨lw_p29, List.forall_mem_cons.mpr ⟨lw_p30, List.forall_mem_cons.mpr ⟨lw_p31, fun _ h => absurd h List.not_mem_nil⟩⟩⟩⟩⟩⟩⟩⟩⟩⟩⟩⟩⟩⟩⟩⟩
theorem lw_p32 : lw_okq (⟨"GrainHost", "sendTell", "(LGrainHost$Request;LGrainHost$Grain;I)I"⟩, 14) := ⟨⟨by decide +kernel, by decide +kernel⟩, List.mem_of_getElem? (i := 12) (by decide +kernel), List.mem_of_getElem? (i := 473) (by decide +kernel), List.mem_of_getElem? (i := 474) (by decide +kernel)⟩
theorem lw_p33 : lw_okq (⟨"GrainHost$Grain", "remindEach", "(I)V"⟩, 11) := ⟨⟨by decide +kernel, by decide +kernel⟩, List.mem_of_getElem? (i := 184) (by decide +kernel), List.mem_of_getElem? (i := 477) (by decide +kernel), List.mem_of_getElem? (i := 478) (by decide +kernel)⟩
theorem lw_p34 : lw_okq (⟨"GrainHost", "ringTimers", "()V"⟩, 14) := ⟨⟨by decide +kernel, by decide +kernel⟩, List.mem_of_getElem? (i := 12) (by decide +kernel), List.mem_of_getElem? (i := 485) (by decide +kernel), List.mem_of_getElem? (i := 486) (by decide +kernel)⟩
theorem lw_p35 : lw_okq (⟨"GrainHost", "wake", "(LGrainHost$Grain;I)V"⟩, 14) := ⟨⟨by decide +kernel, by decide +kernel⟩, List.mem_of_getElem? (i := 12) (by decide +kernel), List.mem_of_getElem? (i := 489) (by decide +kernel), List.mem_of_getElem? (i := 490) (by decide +kernel)⟩
theorem lw_p36 : lw_okq (⟨"GrainHost", "ringReminders", "()V"⟩, 14) := ⟨⟨by decide +kernel, by decide +kernel⟩, List.mem_of_getElem? (i := 12) (by decide +kernel), List.mem_of_getElem? (i := 493) (by decide +kernel), List.mem_of_getElem? (i := 494) (by decide +kernel)⟩
theorem lw_p37 : lw_okq (⟨"GrainHost", "endLateAwaits", "()V"⟩, 14) := ⟨⟨by decide +kernel, by decide +kernel⟩, List.mem_of_getElem? (i := 12) (by decide +kernel), List.mem_of_getElem? (i := 497) (by decide +kernel), List.mem_of_getElem? (i := 498) (by decide +kernel)⟩
theorem lw_p38 : lw_okq (⟨"GrainHost", "isLate", "(I)Z"⟩, 14) := ⟨⟨by decide +kernel, by decide +kernel⟩, List.mem_of_getElem? (i := 12) (by decide +kernel), List.mem_of_getElem? (i := 501) (by decide +kernel), List.mem_of_getElem? (i := 502) (by decide +kernel)⟩
theorem lw_p39 : lw_okq (⟨"GrainHost", "goOnLate", "(LGrainHost$Request;)Z"⟩, 14) := ⟨⟨by decide +kernel, by decide +kernel⟩, List.mem_of_getElem? (i := 12) (by decide +kernel), List.mem_of_getElem? (i := 505) (by decide +kernel), List.mem_of_getElem? (i := 506) (by decide +kernel)⟩
theorem lw_p40 : lw_okq (⟨"GrainHost", "endLateOutsides", "()V"⟩, 14) := ⟨⟨by decide +kernel, by decide +kernel⟩, List.mem_of_getElem? (i := 12) (by decide +kernel), List.mem_of_getElem? (i := 509) (by decide +kernel), List.mem_of_getElem? (i := 510) (by decide +kernel)⟩
theorem lw_p41 : lw_okq (⟨"GrainHost", "endOutside", "(LGrainHost$Outside;)V"⟩, 14) := ⟨⟨by decide +kernel, by decide +kernel⟩, List.mem_of_getElem? (i := 12) (by decide +kernel), List.mem_of_getElem? (i := 513) (by decide +kernel), List.mem_of_getElem? (i := 514) (by decide +kernel)⟩
theorem lw_p42 : lw_okq (⟨"GrainHost", "dropIdleGrains", "()V"⟩, 14) := ⟨⟨by decide +kernel, by decide +kernel⟩, List.mem_of_getElem? (i := 12) (by decide +kernel), List.mem_of_getElem? (i := 517) (by decide +kernel), List.mem_of_getElem? (i := 518) (by decide +kernel)⟩
theorem lw_p43 : lw_okq (⟨"GrainHost$Requests", "clear", "()V"⟩, 3) := ⟨⟨by decide +kernel, by decide +kernel⟩, List.mem_of_getElem? (i := 26) (by decide +kernel), List.mem_of_getElem? (i := 525) (by decide +kernel), List.mem_of_getElem? (i := 526) (by decide +kernel)⟩
theorem lw_p44 : lw_okq (⟨"GrainHost$Line", "clear", "()V"⟩, 3) := ⟨⟨by decide +kernel, by decide +kernel⟩, List.mem_of_getElem? (i := 113) (by decide +kernel), List.mem_of_getElem? (i := 529) (by decide +kernel), List.mem_of_getElem? (i := 530) (by decide +kernel)⟩
theorem lw_p45 : lw_okq (⟨"GrainHost$Requests", "begunAt", "(LGrainHost$Grain;)I"⟩, 3) := ⟨⟨by decide +kernel, by decide +kernel⟩, List.mem_of_getElem? (i := 26) (by decide +kernel), List.mem_of_getElem? (i := 542) (by decide +kernel), List.mem_of_getElem? (i := 543) (by decide +kernel)⟩
theorem lw_p46 : lw_okq (⟨"GrainHost$Requests", "waitingAt", "(LGrainHost$Grain;)I"⟩, 3) := ⟨⟨by decide +kernel, by decide +kernel⟩, List.mem_of_getElem? (i := 26) (by decide +kernel), List.mem_of_getElem? (i := 546) (by decide +kernel), List.mem_of_getElem? (i := 547) (by decide +kernel)⟩
theorem lw_p47 : lw_okq (⟨"GrainHost$Line", "at", "(I)I"⟩, 3) := ⟨⟨by decide +kernel, by decide +kernel⟩, List.mem_of_getElem? (i := 113) (by decide +kernel), List.mem_of_getElem? (i := 564) (by decide +kernel), List.mem_of_getElem? (i := 565) (by decide +kernel)⟩
def lw_privs_3 : List (MethodName × Nat) := [(⟨"GrainHost", "sendTell", "(LGrainHost$Request;LGrainHost$Grain;I)I"⟩, 14), (⟨"GrainHost$Grain", "remindEach", "(I)V"⟩, 11), (⟨"GrainHost", "ringTimers", "()V"⟩, 14), (⟨"GrainHost", "wake", "(LGrainHost$Grain;I)V"⟩, 14), (⟨"GrainHost", "ringReminders", "()V"⟩, 14), (⟨"GrainHost", "endLateAwaits", "()V"⟩, 14), (⟨"GrainHost", "isLate", "(I)Z"⟩, 14), (⟨"GrainHost", "goOnLate", "(LGrainHost$Request;)Z"⟩, 14), (⟨"GrainHost", "endLateOutsides", "()V"⟩, 14), (⟨"GrainHost", "endOutside", "(LGrainHost$Outside;)V"⟩, 14), (⟨"GrainHost", "dropIdleGrains", "()V"⟩, 14), (⟨"GrainHost$Requests", "clear", "()V"⟩, 3), (⟨"GrainHost$Line", "clear", "()V"⟩, 3), (⟨"GrainHost$Requests", "begunAt", "(LGrainHost$Grain;)I"⟩, 3), (⟨"GrainHost$Requests", "waitingAt", "(LGrainHost$Grain;)I"⟩, 3), (⟨"GrainHost$Line", "at", "(I)I"⟩, 3)]
theorem lw_r3 : ∀ q ∈ lw_privs_3, lw_okq q := List.forall_mem_cons.mpr ⟨lw_p32, List.forall_mem_cons.mpr ⟨lw_p33, List.forall_mem_cons.mpr ⟨lw_p34, List.forall_mem_cons.mpr ⟨lw_p35, List.forall_mem_cons.mpr ⟨lw_p36, List.forall_mem_cons.mpr ⟨lw_p37, List.forall_mem_cons.mpr ⟨lw_p38, List.forall_mem_cons.mpr ⟨lw_p39, List.forall_mem_cons.mpr ⟨lw_p40, List.forall_mem_cons.mpr ⟨lw_p41, List.forall_mem_cons.mpr ⟨lw_p42, List.forall_mem_cons.mpr ⟨lw_p43, List.forall_mem_cons.mpr ⟨lw_p44, List.forall_mem_cons.mpr ⟨lw_p45, List.forall_mem_cons.mpr ⟨lw_p46, List.forall_mem_cons.mpr ⟨lw_p47, fun _ h => absurd h List.not_mem_nil⟩⟩⟩⟩⟩⟩⟩⟩⟩⟩⟩⟩⟩⟩⟩⟩
theorem lw_p48 : lw_okq (⟨"GrainHost", "grainsHere", "()I"⟩, 14) := ⟨⟨by decide +kernel, by decide +kernel⟩, List.mem_of_getElem? (i := 12) (by decide +kernel), List.mem_of_getElem? (i := 572) (by decide +kernel), List.mem_of_getElem? (i := 573) (by decide +kernel)⟩
theorem lw_p49 : lw_okq (⟨"GrainHostModel", "come", "(I)V"⟩, 46) := ⟨⟨by decide +kernel, by decide +kernel⟩, List.mem_of_getElem? (i := 576) (by decide +kernel), List.mem_of_getElem? (i := 749) (by decide +kernel), List.mem_of_getElem? (i := 750) (by decide +kernel)⟩
theorem lw_p50 : lw_okq (⟨"GrainHostModel", "works", "()Z"⟩, 46) := ⟨⟨by decide +kernel, by decide +kernel⟩, List.mem_of_getElem? (i := 576) (by decide +kernel), List.mem_of_getElem? (i := 753) (by decide +kernel), List.mem_of_getElem? (i := 754) (by decide +kernel)⟩
theorem lw_p51 : lw_okq (⟨"GrainHostModel", "leave", "(I)V"⟩, 46) := ⟨⟨by decide +kernel, by decide +kernel⟩, List.mem_of_getElem? (i := 576) (by decide +kernel), List.mem_of_getElem? (i := 757) (by decide +kernel), List.mem_of_getElem? (i := 758) (by decide +kernel)⟩
theorem lw_p52 : lw_okq (⟨"GrainHostModel", "look", "(I)V"⟩, 46) := ⟨⟨by decide +kernel, by decide +kernel⟩, List.mem_of_getElem? (i := 576) (by decide +kernel), List.mem_of_getElem? (i := 761) (by decide +kernel), List.mem_of_getElem? (i := 762) (by decide +kernel)⟩
theorem lw_p53 : lw_okq (⟨"GrainHostModel", "many", "(II)I"⟩, 46) := ⟨⟨by decide +kernel, by decide +kernel⟩, List.mem_of_getElem? (i := 576) (by decide +kernel), List.mem_of_getElem? (i := 765) (by decide +kernel), List.mem_of_getElem? (i := 766) (by decide +kernel)⟩
theorem lw_p54 : lw_okq (⟨"GrainHostModel", "allRead", "(I)Z"⟩, 46) := ⟨⟨by decide +kernel, by decide +kernel⟩, List.mem_of_getElem? (i := 576) (by decide +kernel), List.mem_of_getElem? (i := 769) (by decide +kernel), List.mem_of_getElem? (i := 770) (by decide +kernel)⟩
theorem lw_p55 : lw_okq (⟨"GrainHostModel", "queue", "(I)V"⟩, 46) := ⟨⟨by decide +kernel, by decide +kernel⟩, List.mem_of_getElem? (i := 576) (by decide +kernel), List.mem_of_getElem? (i := 773) (by decide +kernel), List.mem_of_getElem? (i := 774) (by decide +kernel)⟩
theorem lw_p56 : lw_okq (⟨"GrainHostModel", "firstAt", "(I)I"⟩, 46) := ⟨⟨by decide +kernel, by decide +kernel⟩, List.mem_of_getElem? (i := 576) (by decide +kernel), List.mem_of_getElem? (i := 777) (by decide +kernel), List.mem_of_getElem? (i := 778) (by decide +kernel)⟩
theorem lw_p57 : lw_okq (⟨"GrainHostModel", "over", "(III)V"⟩, 46) := ⟨⟨by decide +kernel, by decide +kernel⟩, List.mem_of_getElem? (i := 576) (by decide +kernel), List.mem_of_getElem? (i := 781) (by decide +kernel), List.mem_of_getElem? (i := 782) (by decide +kernel)⟩
theorem lw_p58 : lw_okq (⟨"GrainHostModel", "remove", "(I)V"⟩, 46) := ⟨⟨by decide +kernel, by decide +kernel⟩, List.mem_of_getElem? (i := 576) (by decide +kernel), List.mem_of_getElem? (i := 785) (by decide +kernel), List.mem_of_getElem? (i := 786) (by decide +kernel)⟩
theorem lw_p59 : lw_okq (⟨"GrainHostModel", "find", "(I)I"⟩, 46) := ⟨⟨by decide +kernel, by decide +kernel⟩, List.mem_of_getElem? (i := 576) (by decide +kernel), List.mem_of_getElem? (i := 789) (by decide +kernel), List.mem_of_getElem? (i := 790) (by decide +kernel)⟩
theorem lw_p60 : lw_okq (⟨"GrainHostModel", "resume", "(III)Z"⟩, 46) := ⟨⟨by decide +kernel, by decide +kernel⟩, List.mem_of_getElem? (i := 576) (by decide +kernel), List.mem_of_getElem? (i := 793) (by decide +kernel), List.mem_of_getElem? (i := 794) (by decide +kernel)⟩
theorem lw_p61 : lw_okq (⟨"GrainHostModel", "isCatch", "(I)Z"⟩, 46) := ⟨⟨by decide +kernel, by decide +kernel⟩, List.mem_of_getElem? (i := 576) (by decide +kernel), List.mem_of_getElem? (i := 797) (by decide +kernel), List.mem_of_getElem? (i := 798) (by decide +kernel)⟩
theorem lw_p62 : lw_okq (⟨"GrainHostModel", "isEmpty", "(I)Z"⟩, 46) := ⟨⟨by decide +kernel, by decide +kernel⟩, List.mem_of_getElem? (i := 576) (by decide +kernel), List.mem_of_getElem? (i := 801) (by decide +kernel), List.mem_of_getElem? (i := 802) (by decide +kernel)⟩
theorem lw_p63 : lw_okq (⟨"GrainHostModel", "go", "(I)V"⟩, 46) := ⟨⟨by decide +kernel, by decide +kernel⟩, List.mem_of_getElem? (i := 576) (by decide +kernel), List.mem_of_getElem? (i := 805) (by decide +kernel), List.mem_of_getElem? (i := 806) (by decide +kernel)⟩
def lw_privs_4 : List (MethodName × Nat) := [(⟨"GrainHost", "grainsHere", "()I"⟩, 14), (⟨"GrainHostModel", "come", "(I)V"⟩, 46), (⟨"GrainHostModel", "works", "()Z"⟩, 46), (⟨"GrainHostModel", "leave", "(I)V"⟩, 46), (⟨"GrainHostModel", "look", "(I)V"⟩, 46), (⟨"GrainHostModel", "many", "(II)I"⟩, 46), (⟨"GrainHostModel", "allRead", "(I)Z"⟩, 46), (⟨"GrainHostModel", "queue", "(I)V"⟩, 46), (⟨"GrainHostModel", "firstAt", "(I)I"⟩, 46), (⟨"GrainHostModel", "over", "(III)V"⟩, 46), (⟨"GrainHostModel", "remove", "(I)V"⟩, 46), (⟨"GrainHostModel", "find", "(I)I"⟩, 46), (⟨"GrainHostModel", "resume", "(III)Z"⟩, 46), (⟨"GrainHostModel", "isCatch", "(I)Z"⟩, 46), (⟨"GrainHostModel", "isEmpty", "(I)Z"⟩, 46), (⟨"GrainHostModel", "go", "(I)V"⟩, 46)]
theorem lw_r4 : ∀ q ∈ lw_privs_4, lw_okq q := List.forall_mem_cons.mpr ⟨lw_p48, List.forall_mem_cons.mpr ⟨lw_p49, List.forall_mem_cons.mpr ⟨lw_p50, List.forall_mem_cons.mpr ⟨lw_p51, List.forall_mem_cons.mpr ⟨lw_p52, List.forall_mem_cons.mpr ⟨lw_p53, List.forall_mem_cons.mpr ⟨lw_p54, List.forall_mem_cons.mpr ⟨lw_p55, List.forall_mem_cons.mpr ⟨lw_p56, List.forall_mem_cons.mpr ⟨lw_p57, List.forall_mem_cons.mpr ⟨lw_p58, List.forall_mem_cons.mpr ⟨lw_p59, List.forall_mem_cons.mpr ⟨lw_p60, List.forall_mem_cons.mpr ⟨lw_p61, List.forall_mem_cons.mpr ⟨lw_p62, List.forall_mem_cons.mpr ⟨lw_p63, fun _ h => absurd h List.not_mem_nil⟩⟩⟩⟩⟩⟩⟩⟩⟩⟩⟩⟩⟩⟩⟩⟩
theorem lw_p64 : lw_okq (⟨"GrainHostModel", "save", "(I)V"⟩, 46) := ⟨⟨by decide +kernel, by decide +kernel⟩, List.mem_of_getElem? (i := 576) (by decide +kernel), List.mem_of_getElem? (i := 809) (by decide +kernel), List.mem_of_getElem? (i := 810) (by decide +kernel)⟩
theorem lw_p65 : lw_okq (⟨"GrainHostModel", "act", "(I)Z"⟩, 46) := ⟨⟨by decide +kernel, by decide +kernel⟩, List.mem_of_getElem? (i := 576) (by decide +kernel), List.mem_of_getElem? (i := 813) (by decide +kernel), List.mem_of_getElem? (i := 814) (by decide +kernel)⟩
theorem lw_p66 : lw_okq (⟨"GrainHostModel", "invoke", "(III)Z"⟩, 46) := ⟨⟨by decide +kernel, by decide +kernel⟩, List.mem_of_getElem? (i := 576) (by decide +kernel), List.mem_of_getElem? (i := 817) (by decide +kernel), List.mem_of_getElem? (i := 818) (by decide +kernel)⟩
theorem lw_p67 : lw_okq (⟨"GrainHostModel", "make", "(IIIII)V"⟩, 46) := ⟨⟨by decide +kernel, by decide +kernel⟩, List.mem_of_getElem? (i := 576) (by decide +kernel), List.mem_of_getElem? (i := 821) (by decide +kernel), List.mem_of_getElem? (i := 822) (by decide +kernel)⟩
theorem lw_p68 : lw_okq (⟨"GrainHostModel", "late", "()V"⟩, 46) := ⟨⟨by decide +kernel, by decide +kernel⟩, List.mem_of_getElem? (i := 576) (by decide +kernel), List.mem_of_getElem? (i := 829) (by decide +kernel), List.mem_of_getElem? (i := 830) (by decide +kernel)⟩
theorem lw_p69 : lw_okq (⟨"GrainHostModel", "behindOf", "(I)I"⟩, 46) := ⟨⟨by decide +kernel, by decide +kernel⟩, List.mem_of_getElem? (i := 576) (by decide +kernel), List.mem_of_getElem? (i := 833) (by decide +kernel), List.mem_of_getElem? (i := 834) (by decide +kernel)⟩
theorem lw_p70 : lw_okq (⟨"GrainHostModel", "rest", "(I)V"⟩, 46) := ⟨⟨by decide +kernel, by decide +kernel⟩, List.mem_of_getElem? (i := 576) (by decide +kernel), List.mem_of_getElem? (i := 837) (by decide +kernel), List.mem_of_getElem? (i := 838) (by decide +kernel)⟩
def lw_privs_5 : List (MethodName × Nat) := [(⟨"GrainHostModel", "save", "(I)V"⟩, 46), (⟨"GrainHostModel", "act", "(I)Z"⟩, 46), (⟨"GrainHostModel", "invoke", "(III)Z"⟩, 46), (⟨"GrainHostModel", "make", "(IIIII)V"⟩, 46), (⟨"GrainHostModel", "late", "()V"⟩, 46), (⟨"GrainHostModel", "behindOf", "(I)I"⟩, 46), (⟨"GrainHostModel", "rest", "(I)V"⟩, 46)]
theorem lw_r5 : ∀ q ∈ lw_privs_5, lw_okq q := List.forall_mem_cons.mpr ⟨lw_p64, List.forall_mem_cons.mpr ⟨lw_p65, List.forall_mem_cons.mpr ⟨lw_p66, List.forall_mem_cons.mpr ⟨lw_p67, List.forall_mem_cons.mpr ⟨lw_p68, List.forall_mem_cons.mpr ⟨lw_p69, List.forall_mem_cons.mpr ⟨lw_p70, fun _ h => absurd h List.not_mem_nil⟩⟩⟩⟩⟩⟩⟩
def lw_privs : List (MethodName × Nat) := lw_privs_1 ++ (lw_privs_2 ++ (lw_privs_3 ++ (lw_privs_4 ++ (lw_privs_5))))
def lw_tbl : List Cond := k2_sels lw_privs ++ tables_1
theorem lw_privs_ok : ∀ q ∈ lw_privs, lw_okq q := by
  show ∀ q ∈ lw_privs_1 ++ (lw_privs_2 ++ (lw_privs_3 ++ (lw_privs_4 ++ (lw_privs_5)))), lw_okq q
  exact List.forall_mem_append.mpr ⟨lw_r1, List.forall_mem_append.mpr ⟨lw_r2, List.forall_mem_append.mpr ⟨lw_r3, List.forall_mem_append.mpr ⟨lw_r4, lw_r5⟩⟩⟩⟩
end
section
/-! ===== A SMALL MACHINE over numbered places: the same bytes, the heap as a function, no addresses. Place 0 is the script; place k + 1 is the k-th cell made ===== -/
abbrev jv_C : Type := (Nat × Nat × ((Nat → Int32) ⊕ (Nat → Option Nat))) ⊕ (Nat × List Value)
abbrev jv_H : Type := Nat × Nat × (Nat → jv_C)
abbrev jv_L : Type := List (Option Value)
abbrev jv_S : Type := Nat × jv_L × List Value × jv_H
abbrev jv_R : Type := Option Value × jv_H
abbrev jv_M : Type := MethodName × ByteArray × Nat × Option FieldType × Nat × Nat × Nat
/-- a program: methods; fields, calls, classes, array types, constants by method and pool index; classes with their fields' types; array types; words; words of nest mates -/
abbrev jv_G : Type := (Nat → jv_M) × (Nat → Nat → Option (Nat × Nat)) × (Nat → Nat → Option (Nat × Nat × Nat)) × (Nat → Nat → Option Nat) × (Nat → Nat → Option Nat) × (Nat → Nat → Option Int32) × (Nat → Nat → Option Int64) × (List (vw_C × (Nat → FieldType))) × (List (FieldType × Nat)) × List Cond × List Cond
def jg_y (G : jv_G) (i : Nat) : MethodName := (G.1 i).1
def jg_code (G : jv_G) (i : Nat) : ByteArray := (G.1 i).2.1
def jg_maxL (G : jv_G) (i : Nat) : Nat := (G.1 i).2.2.1
def jg_ret (G : jv_G) (i : Nat) : Option FieldType := (G.1 i).2.2.2.1
/-- the number of a method's class -/
def jg_mc (G : jv_G) (i : Nat) : Nat := (G.1 i).2.2.2.2.1
/-- frames and locals' words beyond its own that a method may need -/
def jg_fr (G : jv_G) (i : Nat) : Nat := (G.1 i).2.2.2.2.2.1
def jg_lo (G : jv_G) (i : Nat) : Nat := (G.1 i).2.2.2.2.2.2
def jg_own (G : jv_G) (i : Nat) : String := (jg_y G i).cls
def jg_fld (G : jv_G) : Nat → Nat → Option (Nat × Nat) := G.2.1
def jg_inv (G : jv_G) : Nat → Nat → Option (Nat × Nat × Nat) := G.2.2.1
def jg_new (G : jv_G) : Nat → Nat → Option Nat := G.2.2.2.1
def jg_anw (G : jv_G) : Nat → Nat → Option Nat := G.2.2.2.2.1
def jg_ldc (G : jv_G) : Nat → Nat → Option Int32 := G.2.2.2.2.2.1
def jg_ldl (G : jv_G) : Nat → Nat → Option Int64 := G.2.2.2.2.2.2.1
def jg_cls (G : jv_G) : List (vw_C × (Nat → FieldType)) := G.2.2.2.2.2.2.2.1
def jg_tys (G : jv_G) : List (FieldType × Nat) := G.2.2.2.2.2.2.2.2.1
def jg_ws (G : jv_G) : List Cond := G.2.2.2.2.2.2.2.2.2.1
def jg_nw (G : jv_G) : List Cond := G.2.2.2.2.2.2.2.2.2.2
def jg_cl (G : jv_G) : List vw_C := (jg_cls G).map (fun q => q.1)
/-- the cell that a place holds which isn't made -/
def jv_no : jv_C := .inr (999, [])
def jv_wf (h : jv_H) : Prop := ∀ a, (a = 0 ∨ h.1 < a) → h.2.2 a = jv_no
def jv_get (h : jv_H) (a ci k : Nat) : Option Value := match h.2.2 a with
  | .inr (c, fs) => if c = ci then fs[k]? else none
  | .inl _ => none
def jv_put (h : jv_H) (a ci k : Nat) (v : Value) : Option jv_H := match h.2.2 a with
  | .inr (c, fs) => if c = ci ∧ k < fs.length then some (h.1, h.2.1, va_up h.2.2 a (.inr (c, fs.set k v))) else none
  | .inl _ => none
def jv_out (i : Int32) (n : Nat) : Bool := decide (i < 0 ∨ n ≤ i.toNatClampNeg)
/-- an element of an array of ints (type number t: 0 ints, 1 booleans) -/
def jv_ald (h : jv_H) (t a : Nat) (i : Int32) : Option Int32 := match h.2.2 a with
  | .inl (u, n, .inl f) => if u = t ∧ jv_out i n = false then some (f i.toNatClampNeg) else none
  | _ => none
def jv_ast (h : jv_H) (t a : Nat) (i x : Int32) : Option jv_H := match h.2.2 a with
  | .inl (u, n, .inl f) => if u = t ∧ jv_out i n = false then some (h.1, h.2.1, va_up h.2.2 a (.inl (u, n, .inl (va_up f i.toNatClampNeg x)))) else none
  | _ => none
def jv_rld (G : jv_G) (h : jv_H) (a : Nat) (i : Int32) : Option (Option Nat) := match h.2.2 a with
  | .inl (u, n, .inr f) => if jv_out i n = false ∧ 2 ≤ u ∧ u < (jg_tys G).length then some (f i.toNatClampNeg) else none
  | _ => none
def jv_isC (h : jv_H) (ci : Nat) (v : Option Nat) : Bool := match v with
  | none => true
  | some a => match h.2.2 a with
    | .inr (c, _) => decide (c = ci)
    | .inl _ => false
def jv_rst (G : jv_G) (h : jv_H) (a : Nat) (i : Int32) (v : Option Nat) : Option jv_H := match h.2.2 a with
  | .inl (u, n, .inr f) => if jv_out i n = false ∧ 2 ≤ u ∧ (match (jg_tys G)[u]? with | some q => jv_isC h q.2 v | none => false) = true then some (h.1, h.2.1, va_up h.2.2 a (.inl (u, n, .inr (va_up f i.toNatClampNeg v)))) else none
  | _ => none
def jv_len (G : jv_G) (X : Nat × (Nat → Int32)) (h : jv_H) (a : Nat) : Option Int32 := match a with
  | 0 => some (Int32.ofNat X.1)
  | a + 1 => match h.2.2 (a + 1) with
    | .inl (u, n, _) => if u < (jg_tys G).length then some (Int32.ofNat n) else none
    | .inr _ => none
def jv_def (ty : FieldType) : Value := defaultValue ty
def jv_newo (G : jv_G) (h : jv_H) (ci : Nat) : Option jv_H := match (jg_cls G)[ci]? with
  | some q => some (h.1 + 1, h.2.1 + q.1.2.2, va_up h.2.2 (h.1 + 1) (.inr (ci, (List.range q.1.2.2).map (fun k => jv_def (q.2 k)))))
  | none => none
def jv_newi (h : jv_H) (t : Nat) (n : Int32) : Option jv_H :=
  if n < 0 ∨ 1000 < n.toNatClampNeg then none else some (h.1 + 1, h.2.1 + n.toNatClampNeg, va_up h.2.2 (h.1 + 1) (.inl (t, n.toNatClampNeg, .inl (fun _ => 0))))
def jv_newr (h : jv_H) (t : Nat) (n : Int32) : Option jv_H :=
  if n < 0 ∨ 1000 < n.toNatClampNeg then none else some (h.1 + 1, h.2.1 + n.toNatClampNeg, va_up h.2.2 (h.1 + 1) (.inl (t, n.toNatClampNeg, .inr (fun _ => none))))
/-- the stack and the locals -/
def jv_bin (f : Int32 → Int32 → Int32) (S : List Value) : Option (List Value) := match S with
  | .int y :: .int x :: r => some (.int (f x y) :: r)
  | _ => none
def jv_dv (f : Int32 → Int32 → Int32) (S : List Value) : Option (List Value) := match S with
  | .int y :: .int x :: r => if y = 0 then none else some (.int (f x y) :: r)
  | _ => none
def jv_ld (L : jv_L) (k : Nat) : Option Value := match L[k]? with
  | some (some v) => some v
  | _ => none
def jv_pi (L : jv_L) (S : List Value) (k : Nat) : Option (List Value) := match jv_ld L k with
  | some (.int x) => some (.int x :: S)
  | _ => none
def jv_rv (v : Value) : Option (Option Nat) := match v with
  | .null => some none
  | .ref a => some (some a)
  | _ => none
def jv_pa (L : jv_L) (S : List Value) (k : Nat) : Option (List Value) := match jv_ld L k with
  | some .null => some (.null :: S)
  | some (.ref a) => some (.ref a :: S)
  | _ => none
def jv_si (L : jv_L) (S : List Value) (k : Nat) : Option (jv_L × List Value) := match S with
  | .int x :: r => if k < L.length then some (L.set k (some (.int x)), r) else none
  | _ => none
def jv_sa (L : jv_L) (S : List Value) (k : Nat) : Option (jv_L × List Value) := match S with
  | .null :: r => if k < L.length then some (L.set k (some .null), r) else none
  | .ref a :: r => if k < L.length then some (L.set k (some (.ref a)), r) else none
  | _ => none
def jv_go (pc : Nat) (L : jv_L) (h : jv_H) (o : Option (List Value)) : Option (jv_R ⊕ jv_S) := match o with
  | some S => some (.inr (pc, L, S, h))
  | none => none
def jv_gol (pc : Nat) (h : jv_H) (o : Option (jv_L × List Value)) : Option (jv_R ⊕ jv_S) := match o with
  | some q => some (.inr (pc, q.1, q.2, h))
  | none => none
def jv_goh (pc : Nat) (L : jv_L) (S : List Value) (o : Option jv_H) : Option (jv_R ⊕ jv_S) := match o with
  | some h => some (.inr (pc, L, S, h))
  | none => none
def jv_jmp (pc : Nat) (off : Int) (L : jv_L) (S : List Value) (h : jv_H) : Option (jv_R ⊕ jv_S) := if 0 ≤ (pc : Int) + off then some (.inr (((pc : Int) + off).toNat, L, S, h)) else none
def jv_br (b : Bool) (pc : Nat) (off : Int) (L : jv_L) (S : List Value) (h : jv_H) : Option (jv_R ⊕ jv_S) := if 0 ≤ (pc : Int) + off then some (.inr (if b then ((pc : Int) + off).toNat else pc + 3, L, S, h)) else none
def jv_c2 (c : Jvm.ClassFile.Cond) (x y : Int32) : Bool := match c with
  | .eq => decide (x = y)
  | .ne => decide (¬ x = y)
  | .lt => decide (x < y)
  | .ge => decide (y ≤ x)
  | .gt => decide (y < x)
  | .le => decide (x ≤ y)
def jv_cat1 (v : Value) : Bool := decide (v.category = 1)
def jv_fit (ty : FieldType) (v : Value) : Bool := match ty, v with
  | .int, .int _ => true
  | .boolean, .int x => decide (x = 0 ∨ x = 1)
  | .object _, .null => true
  | .object _, .ref _ => true
  | .array _, .null => true
  | .array _, .ref _ => true
  | _, _ => false
def jv_done (pc : Nat) (L : jv_L) (rest : List Value) (o : Option jv_R) : Option (jv_R ⊕ jv_S) := match o with
  | some q => some (.inr (pc + 3, L, q.1.toList ++ rest, q.2))
  | none => none
def jv_cats (S : List Value) : Nat := (S.map fun v => v.category).sum
/-- calls: of an object's method, of a static one, of a constructor -/
def jv_cV (G : jv_G) (call : Nat → List Value → jv_H → Option jv_R) (pc : Nat) (L : jv_L) (S : List Value) (h : jv_H) (mi n : Nat) : Option (jv_R ⊕ jv_S) := match S.drop n with
  | .ref a :: rest => if jv_cats rest ≤ 8 ∧ jv_isC h (jg_mc G mi) (some a) = true then jv_done pc L rest (call mi (.ref a :: (S.take n).reverse) h) else none
  | _ => none
def jv_cS (call : Nat → List Value → jv_H → Option jv_R) (pc : Nat) (L : jv_L) (S : List Value) (h : jv_H) (mi n : Nat) : Option (jv_R ⊕ jv_S) :=
  if n ≤ S.length ∧ jv_cats (S.drop n) ≤ 8 then jv_done pc L (S.drop n) (call mi (S.take n).reverse h) else none
def jv_cI (call : Nat → List Value → jv_H → Option jv_R) (pc : Nat) (L : jv_L) (S : List Value) (h : jv_H) (mi n : Nat) : Option (jv_R ⊕ jv_S) := match S.drop n with
  | .ref a :: rest => if jv_cats rest ≤ 8 then jv_done pc L rest (call mi (.ref a :: (S.take n).reverse) h) else none
  | _ => none
def jv_c0 (pc : Nat) (L : jv_L) (S : List Value) (h : jv_H) : Option (jv_R ⊕ jv_S) := match S with
  | .ref _ :: rest => if jv_cats rest ≤ 8 then some (.inr (pc + 3, L, rest, h)) else none
  | _ => none
def jv_iret (ty : Option FieldType) (S : List Value) (h : jv_H) : Option (jv_R ⊕ jv_S) := match ty, S with
  | some .int, [.int v] => some (.inl (some (.int v), h))
  | some .boolean, [.int v] => if v = 0 ∨ v = 1 then some (.inl (some (.int v), h)) else none
  | _, _ => none
def jv_lret (ty : Option FieldType) (S : List Value) (h : jv_H) : Option (jv_R ⊕ jv_S) := match ty, S with
  | some .long, [.long v] => some (.inl (some (.long v), h))
  | _, _ => none
def jv_aret (ty : Option FieldType) (S : List Value) (h : jv_H) : Option (jv_R ⊕ jv_S) := match ty, S with
  | some (.object _), [.null] => some (.inl (some .null, h))
  | some (.object _), [.ref a] => some (.inl (some (.ref a), h))
  | _, _ => none
def jv_vret (ty : Option FieldType) (S : List Value) (h : jv_H) : Option (jv_R ⊕ jv_S) := match ty, S with
  | none, [] => some (.inl (none, h))
  | _, _ => none
def jv_sIalo (X : Nat × (Nat → Int32)) (h : jv_H) (S : List Value) : Option (List Value) := match S with
  | .int i :: .ref 0 :: r => if jv_out i X.1 = false then some (.int (X.2 i.toNatClampNeg) :: r) else none
  | .int i :: .ref (a + 1) :: r => match jv_ald h 0 (a + 1) i with
    | some x => some (.int x :: r)
    | none => none
  | _ => none
def jv_sBalo (h : jv_H) (S : List Value) : Option (List Value) := match S with
  | .int i :: .ref a :: r => match jv_ald h 1 a i with
    | some x => some (.int x :: r)
    | none => none
  | _ => none
def jv_sAalo (G : jv_G) (h : jv_H) (S : List Value) : Option (List Value) := match S with
  | .int i :: .ref a :: r => match jv_rld G h a i with
    | some v => some (va_rf v :: r)
    | none => none
  | _ => none
def jv_sIast (pc : Nat) (L : jv_L) (h : jv_H) (S : List Value) : Option (jv_R ⊕ jv_S) := match S with
  | .int x :: .int i :: .ref a :: r => jv_goh (pc + 1) L r (jv_ast h 0 a i x)
  | _ => none
def jv_sBast (pc : Nat) (L : jv_L) (h : jv_H) (S : List Value) : Option (jv_R ⊕ jv_S) := match S with
  | .int x :: .int i :: .ref a :: r => if x = 0 ∨ x = 1 then jv_goh (pc + 1) L r (jv_ast h 1 a i x) else none
  | _ => none
def jv_sAast (G : jv_G) (pc : Nat) (L : jv_L) (h : jv_H) (S : List Value) : Option (jv_R ⊕ jv_S) := match S with
  | .null :: .int i :: .ref a :: r => jv_goh (pc + 1) L r (jv_rst G h a i none)
  | .ref v :: .int i :: .ref a :: r => jv_goh (pc + 1) L r (jv_rst G h a i (some v))
  | _ => none
def jv_sGet (G : jv_G) (h : jv_H) (q : Option (Nat × Nat)) (S : List Value) : Option (List Value) := match q, S with
  | some (ci, k), .ref a :: r => match jv_get h a ci k with
    | some v => some (v :: r)
    | none => none
  | _, _ => none
/-- may v be put into field k of class ci, by method mi -/
def jv_fty (G : jv_G) (mi ci k : Nat) (v : Value) : Bool := match (jg_cls G)[ci]? with
  | some q => jv_fit (q.2 k) v && (!(q.1.2.1 k).2.2.2 || (decide ((jg_y G mi).name = "<init>") && decide ((q.1.2.1 k).1 = jg_own G mi)))
  | none => false
def jv_sPut (G : jv_G) (mi pc : Nat) (L : jv_L) (h : jv_H) (q : Option (Nat × Nat)) (S : List Value) : Option (jv_R ⊕ jv_S) := match q, S with
  | some (ci, k), v :: .ref a :: r => if jv_fty G mi ci k v = true then jv_goh (pc + 3) L r (jv_put h a ci k v) else none
  | _, _ => none
def jv_dup (S : List Value) : Option (List Value) := match S with
  | v :: r => if jv_cat1 v then some (v :: v :: r) else none
  | _ => none
def jv_pop (S : List Value) : Option (List Value) := match S with
  | v :: r => if jv_cat1 v then some r else none
  | _ => none
def jv_dupx1 (S : List Value) : Option (List Value) := match S with
  | v :: w :: r => if jv_cat1 v && jv_cat1 w then some (v :: w :: v :: r) else none
  | _ => none
def jv_dupx2 (S : List Value) : Option (List Value) := match S with
  | v :: w :: u :: r => if jv_cat1 v && jv_cat1 w && jv_cat1 u then some (v :: w :: u :: v :: r) else none
  | _ => none
def jv_dup2 (S : List Value) : Option (List Value) := match S with
  | v :: w :: r => if jv_cat1 v && jv_cat1 w then some (v :: w :: v :: w :: r) else none
  | _ => none
def jv_neg (S : List Value) : Option (List Value) := match S with
  | .int x :: r => some (.int (-x) :: r)
  | _ => none
def jv_i2l (S : List Value) : Option (List Value) := match S with
  | .int x :: r => some (.long x.toInt64 :: r)
  | _ => none
def jv_lcmp (S : List Value) : Option (List Value) := match S with
  | .long y :: .long x :: r => some (.int (lg_cmp x y) :: r)
  | _ => none
def jv_alen (G : jv_G) (X : Nat × (Nat → Int32)) (h : jv_H) (S : List Value) : Option (List Value) := match S with
  | .ref a :: r => match jv_len G X h a with
    | some v => some (.int v :: r)
    | none => none
  | _ => none
def jv_sIf (c : Jvm.ClassFile.Cond) (pc : Nat) (off : Int) (L : jv_L) (S : List Value) (h : jv_H) : Option (jv_R ⊕ jv_S) := match S with
  | .int x :: r => jv_br (jv_c2 c x 0) pc off L r h
  | _ => none
def jv_sIcmp (c : Jvm.ClassFile.Cond) (pc : Nat) (off : Int) (L : jv_L) (S : List Value) (h : jv_H) : Option (jv_R ⊕ jv_S) := match S with
  | .int y :: .int x :: r => jv_br (jv_c2 c x y) pc off L r h
  | _ => none
def jv_sNull (pc : Nat) (off : Int) (L : jv_L) (S : List Value) (h : jv_H) : Option (jv_R ⊕ jv_S) := match S with
  | .null :: r => jv_br true pc off L r h
  | .ref _ :: r => jv_br false pc off L r h
  | _ => none
def jv_sNonn (pc : Nat) (off : Int) (L : jv_L) (S : List Value) (h : jv_H) : Option (jv_R ⊕ jv_S) := match S with
  | .null :: r => jv_br false pc off L r h
  | .ref _ :: r => jv_br true pc off L r h
  | _ => none
def jv_sAcmp (c : Jvm.ClassFile.ACond) (pc : Nat) (off : Int) (L : jv_L) (S : List Value) (h : jv_H) : Option (jv_R ⊕ jv_S) := match S with
  | w :: v :: r => match jv_rv v, jv_rv w with
    | some x, some y => jv_br (match c with | .eq => decide (x = y) | .ne => decide (¬ x = y)) pc off L r h
    | _, _ => none
  | _ => none
def jv_sTab (dflt lo hi : Int) (offs : Array Int) (pc : Nat) (L : jv_L) (S : List Value) (h : jv_H) : Option (jv_R ⊕ jv_S) := match S with
  | .int x :: r => if x.toInt < lo ∨ hi < x.toInt then jv_jmp pc dflt L r h else match offs[(x.toInt - lo).toNat]? with
    | some off => jv_jmp pc off L r h
    | none => none
  | _ => none
def jv_sLook (dflt : Int) (ps : Array (Int × Int)) (pc : Nat) (L : jv_L) (S : List Value) (h : jv_H) : Option (jv_R ⊕ jv_S) := match S with
  | .int x :: r => if (ps.toList.zip (ps.toList.drop 1)).all (fun (a, next) => a.1 < next.1) = true then jv_jmp pc (Op.lookupswitch.offset ps.toList dflt x.toInt) L r h else none
  | _ => none
def jv_sNewi (pc : Nat) (L : jv_L) (h : jv_H) (t : Nat) (S : List Value) : Option (jv_R ⊕ jv_S) := match S with
  | .int n :: r => jv_goh (pc + 2) L (.ref (h.1 + 1) :: r) (jv_newi h t n)
  | _ => none
def jv_sNewr (pc : Nat) (L : jv_L) (h : jv_H) (t : Option Nat) (S : List Value) : Option (jv_R ⊕ jv_S) := match t, S with
  | some t, .int n :: r => jv_goh (pc + 3) L (.ref (h.1 + 1) :: r) (jv_newr h t n)
  | _, _ => none
def jv_sNew (G : jv_G) (pc : Nat) (L : jv_L) (h : jv_H) (q : Option Nat) (S : List Value) : Option (jv_R ⊕ jv_S) := match q with
  | some ci => jv_goh (pc + 3) L (.ref (h.1 + 1) :: S) (jv_newo G h ci)
  | none => none
def jv_ush (x y : Int32) : Int32 := (x.toUInt32 >>> (y.toUInt32 &&& Int32.toUInt32 31)).toInt32
/-- one instruction; what isn't named here, the small machine does not do -/
def jv_ins (G : jv_G) (X : Nat × (Nat → Int32)) (call : Nat → List Value → jv_H → Option jv_R) (mi pc : Nat) (L : jv_L) (S : List Value) (h : jv_H) (ins : Jvm.ClassFile.Instr) (len : Nat) : Option (jv_R ⊕ jv_S) := match ins with
  | .iconst n => if len = 1 then some (.inr (pc + 1, L, .int (Int32.ofInt n) :: S, h)) else none
  | .bipush n => if len = 2 then some (.inr (pc + 2, L, .int (Int8.ofInt n).toInt32 :: S, h)) else none
  | .sipush n => if len = 3 then some (.inr (pc + 3, L, .int (Int16.ofInt n).toInt32 :: S, h)) else none
  | .ldc i => if len = 2 then jv_go (pc + 2) L h ((jg_ldc G mi i).map (fun v => .int v :: S)) else none
  | .ldc_w i => if len = 3 then jv_go (pc + 3) L h ((jg_ldc G mi i).map (fun v => .int v :: S)) else none
  | .ldc2_w i => if len = 3 then jv_go (pc + 3) L h ((jg_ldl G mi i).map (fun v => .long v :: S)) else none
  | .aconst_null => if len = 1 then some (.inr (pc + 1, L, .null :: S, h)) else none
  | .iload_n i => if len = 1 then jv_go (pc + 1) L h (jv_pi L S i.val) else none
  | .iload i => if len = 2 then jv_go (pc + 2) L h (jv_pi L S i) else none
  | .aload_n i => if len = 1 then jv_go (pc + 1) L h (jv_pa L S i.val) else none
  | .aload i => if len = 2 then jv_go (pc + 2) L h (jv_pa L S i) else none
  | .istore_n i => if len = 1 then jv_gol (pc + 1) h (jv_si L S i.val) else none
  | .istore i => if len = 2 then jv_gol (pc + 2) h (jv_si L S i) else none
  | .astore_n i => if len = 1 then jv_gol (pc + 1) h (jv_sa L S i.val) else none
  | .astore i => if len = 2 then jv_gol (pc + 2) h (jv_sa L S i) else none
  | .iinc i n => if len = 3 then (match jv_ld L i with | some (.int x) => some (.inr (pc + 3, L.set i (some (.int (x + Int32.ofInt n))), S, h)) | _ => none) else none
  | .iadd => if len = 1 then jv_go (pc + 1) L h (jv_bin (fun x y => x + y) S) else none
  | .isub => if len = 1 then jv_go (pc + 1) L h (jv_bin (fun x y => x - y) S) else none
  | .imul => if len = 1 then jv_go (pc + 1) L h (jv_bin (fun x y => x * y) S) else none
  | .iand => if len = 1 then jv_go (pc + 1) L h (jv_bin (fun x y => x &&& y) S) else none
  | .ior => if len = 1 then jv_go (pc + 1) L h (jv_bin (fun x y => x ||| y) S) else none
  | .ishl => if len = 1 then jv_go (pc + 1) L h (jv_bin (fun x y => x <<< (y &&& 31)) S) else none
  | .ishr => if len = 1 then jv_go (pc + 1) L h (jv_bin (fun x y => x >>> (y &&& 31)) S) else none
  | .iushr => if len = 1 then jv_go (pc + 1) L h (jv_bin jv_ush S) else none
  | .idiv => if len = 1 then jv_go (pc + 1) L h (jv_dv (fun x y => x / y) S) else none
  | .irem => if len = 1 then jv_go (pc + 1) L h (jv_dv (fun x y => x - x / y * y) S) else none
  | .ineg => if len = 1 then jv_go (pc + 1) L h (jv_neg S) else none
  | .i2l => if len = 1 then jv_go (pc + 1) L h (jv_i2l S) else none
  | .lcmp => if len = 1 then jv_go (pc + 1) L h (jv_lcmp S) else none
  | .dup => if len = 1 then jv_go (pc + 1) L h (jv_dup S) else none
  | .pop => if len = 1 then jv_go (pc + 1) L h (jv_pop S) else none
  | .dup_x1 => if len = 1 then jv_go (pc + 1) L h (jv_dupx1 S) else none
  | .dup_x2 => if len = 1 then jv_go (pc + 1) L h (jv_dupx2 S) else none
  | .dup2 => if len = 1 then jv_go (pc + 1) L h (jv_dup2 S) else none
  | .ifCond c off => if len = 3 then jv_sIf c pc off L S h else none
  | .if_icmp c off => if len = 3 then jv_sIcmp c pc off L S h else none
  | .ifnull off => if len = 3 then jv_sNull pc off L S h else none
  | .ifnonnull off => if len = 3 then jv_sNonn pc off L S h else none
  | .if_acmp c off => if len = 3 then jv_sAcmp c pc off L S h else none
  | .goto off => if len = 3 then jv_jmp pc off L S h else none
  | .tableswitch dflt lo hi offs => jv_sTab dflt lo hi offs pc L S h
  | .lookupswitch dflt ps => jv_sLook dflt ps pc L S h
  | .getfield i => if len = 3 then jv_go (pc + 3) L h (jv_sGet G h (jg_fld G mi i) S) else none
  | .putfield i => if len = 3 then jv_sPut G mi pc L h (jg_fld G mi i) S else none
  | .arraylength => if len = 1 then jv_go (pc + 1) L h (jv_alen G X h S) else none
  | .iaload => if len = 1 then jv_go (pc + 1) L h (jv_sIalo X h S) else none
  | .baload => if len = 1 then jv_go (pc + 1) L h (jv_sBalo h S) else none
  | .aaload => if len = 1 then jv_go (pc + 1) L h (jv_sAalo G h S) else none
  | .iastore => if len = 1 then jv_sIast pc L h S else none
  | .bastore => if len = 1 then jv_sBast pc L h S else none
  | .aastore => if len = 1 then jv_sAast G pc L h S else none
  | .newarray .int => if len = 2 then jv_sNewi pc L h 0 S else none
  | .newarray .boolean => if len = 2 then jv_sNewi pc L h 1 S else none
  | .anewarray i => if len = 3 then jv_sNewr pc L h (jg_anw G mi i) S else none
  | .new i => if len = 3 then jv_sNew G pc L h (jg_new G mi i) S else none
  | .invokevirtual i => if len = 3 then (match jg_inv G mi i with | some (0, y, n) => jv_cV G call pc L S h y n | _ => none) else none
  | .invokestatic i => if len = 3 then (match jg_inv G mi i with | some (1, y, n) => jv_cS call pc L S h y n | _ => none) else none
  | .invokespecial i => if len = 3 then (match jg_inv G mi i with | some (2, y, n) => jv_cI call pc L S h y n | some (3, _, _) => jv_c0 pc L S h | _ => none) else none
  | .ireturn => if len = 1 then jv_iret (jg_ret G mi) S h else none
  | .lreturn => if len = 1 then jv_lret (jg_ret G mi) S h else none
  | .areturn => if len = 1 then jv_aret (jg_ret G mi) S h else none
  | .return_ => if len = 1 then jv_vret (jg_ret G mi) S h else none
  | _ => none
def jv_one (G : jv_G) (X : Nat × (Nat → Int32)) (call : Nat → List Value → jv_H → Option jv_R) (mi : Nat) (st : jv_S) : Option (jv_R ⊕ jv_S) := match decode (jg_code G mi) st.1 with
  | .ok q => jv_ins G X call mi st.1 st.2.1 st.2.2.1 st.2.2.2 q.1 q.2
  | .error _ => none
def jv_run (G : jv_G) (X : Nat × (Nat → Int32)) (call : Nat → List Value → jv_H → Option jv_R) (mi : Nat) : Nat → jv_S → Option jv_R
  | 0, _ => none
  | n + 1, st => match jv_one G X call mi st with
    | none => none
    | some (.inl r) => some r
    | some (.inr st') => jv_run G X call mi n st'
theorem jv_run_succ {G : jv_G} {X : Nat × (Nat → Int32)} {call : Nat → List Value → jv_H → Option jv_R} {mi : Nat} : ∀ (n : Nat) (st : jv_S) (r : jv_R), jv_run G X call mi n st = some r → jv_run G X call mi (n + 1) st = some r
  | 0, st, r, h => by simp [jv_run] at h
  | n + 1, st, r, h => by
    rw [jv_run] at h ⊢
    cases ho : jv_one G X call mi st with
    | none => rw [ho] at h; simp at h
    | some q =>
      rw [ho] at h
      cases q with
      | inl r' => simpa using h
      | inr st' => exact jv_run_succ n st' r (by simpa using h)
theorem jv_run_le {G : jv_G} {X : Nat × (Nat → Int32)} {call : Nat → List Value → jv_H → Option jv_R} {mi : Nat} {n k : Nat} {st : jv_S} {r : jv_R} (h : jv_run G X call mi n st = some r) : jv_run G X call mi (n + k) st = some r := by
  induction k with
  | zero => exact h
  | succ k ih => exact jv_run_succ _ _ _ ih
theorem jv_run_uniq {G : jv_G} {X : Nat × (Nat → Int32)} {call : Nat → List Value → jv_H → Option jv_R} {mi : Nat} {n k : Nat} {st : jv_S} {r r' : jv_R} (h : jv_run G X call mi n st = some r) (h' : jv_run G X call mi k st = some r') : r = r' := by
  have a := jv_run_le (k := k) h
  have b := jv_run_le (k := n) h'
  rw [Nat.add_comm] at b
  exact Option.some.inj (a.symm.trans b)
/-- the run to its end, of any length -/
noncomputable def jv_lim (G : jv_G) (X : Nat × (Nat → Int32)) (call : Nat → List Value → jv_H → Option jv_R) (mi : Nat) (st : jv_S) : Option jv_R :=
  @dite _ (∃ r : jv_R, ∃ n : Nat, jv_run G X call mi n st = some r) (Classical.propDecidable _) (fun h => some (Classical.choose h)) (fun _ => none)
theorem jv_lim_of {G : jv_G} {X : Nat × (Nat → Int32)} {call : Nat → List Value → jv_H → Option jv_R} {mi n : Nat} {st : jv_S} {r : jv_R} (h : jv_run G X call mi n st = some r) : jv_lim G X call mi st = some r := by
  have hx : ∃ r : jv_R, ∃ n : Nat, jv_run G X call mi n st = some r := ⟨r, n, h⟩
  unfold jv_lim
  rw [dif_pos hx]
  obtain ⟨k, hk⟩ := Classical.choose_spec hx
  rw [jv_run_uniq hk h]
theorem jv_lim_run {G : jv_G} {X : Nat × (Nat → Int32)} {call : Nat → List Value → jv_H → Option jv_R} {mi : Nat} {st : jv_S} {r : jv_R} (h : jv_lim G X call mi st = some r) : ∃ n, jv_run G X call mi n st = some r := by
  unfold jv_lim at h
  by_cases hx : ∃ r : jv_R, ∃ n : Nat, jv_run G X call mi n st = some r
  · rw [dif_pos hx] at h
    obtain ⟨k, hk⟩ := Classical.choose_spec hx
    exact ⟨k, by rw [hk]; exact h⟩
  · rw [dif_neg hx] at h
    cases h
theorem jv_lim_eq (G : jv_G) (X : Nat × (Nat → Int32)) (call : Nat → List Value → jv_H → Option jv_R) (mi : Nat) (st : jv_S) : jv_lim G X call mi st = match jv_one G X call mi st with
    | none => none
    | some (.inl r) => some r
    | some (.inr st') => jv_lim G X call mi st' := by
  have key : ∀ r, jv_lim G X call mi st = some r ↔ (match jv_one G X call mi st with
    | none => none
    | some (.inl r) => some r
    | some (.inr st') => jv_lim G X call mi st') = some r := by
    intro r
    constructor
    · intro h
      obtain ⟨n, hn⟩ := jv_lim_run h
      cases n with
      | zero => simp [jv_run] at hn
      | succ n =>
        rw [jv_run] at hn
        cases ho : jv_one G X call mi st with
        | none => rw [ho] at hn; simp at hn
        | some q =>
          rw [ho] at hn
          cases q with
          | inl r' => simpa using hn
          | inr st' => exact jv_lim_of (by simpa using hn)
    · intro h
      cases ho : jv_one G X call mi st with
      | none => rw [ho] at h; simp at h
      | some q =>
        rw [ho] at h
        cases q with
        | inl r' => exact jv_lim_of (n := 1) (by rw [jv_run, ho]; simpa using h)
        | inr st' =>
          obtain ⟨n, hn⟩ := jv_lim_run (by simpa using h)
          exact jv_lim_of (n := n + 1) (by rw [jv_run, ho]; exact hn)
  cases hl : jv_lim G X call mi st with
  | some r => exact ((key r).mp hl).symm
  | none =>
    cases hr : (match jv_one G X call mi st with
      | none => none
      | some (.inl r) => some r
      | some (.inr st') => jv_lim G X call mi st') with
    | none => rfl
    | some r =>
      have := (key r).mpr hr
      rw [hl] at this
      cases this
/-- a method from its entry, with calls nested less than d deep -/
noncomputable def jv_F (G : jv_G) (X : Nat × (Nat → Int32)) : Nat → Nat → List Value → jv_H → Option jv_R
  | 0, _, _, _ => none
  | d + 1, mi, as, h => if as.all jv_cat1 = true ∧ as.length ≤ jg_maxL G mi then jv_lim G X (jv_F G X d) mi (0, as.map some ++ List.replicate (jg_maxL G mi - as.length) none, [], h) else none
end
section
/-! ===== what the small machine does, the machine does ===== -/
def jv_ea (base b a : Nat) : Nat := match a with
  | 0 => b
  | k + 1 => base + k
def jv_ev (base b : Nat) (v : Value) : Value := match v with
  | .ref a => .ref (jv_ea base b a)
  | w => w
theorem jv_ev_int (base b : Nat) (x : Int32) : jv_ev base b (.int x) = .int x := rfl
theorem jv_ev_long (base b : Nat) (x : Int64) : jv_ev base b (.long x) = .long x := rfl
theorem jv_ev_null (base b : Nat) : jv_ev base b .null = .null := rfl
theorem jv_ev_ref (base b a : Nat) : jv_ev base b (.ref a) = .ref (jv_ea base b a) := rfl
theorem jv_ev_cat (base b : Nat) (v : Value) : (jv_ev base b v).category = v.category := by cases v <;> rfl
theorem jv_ev_rf (base b : Nat) (v : Option Nat) : jv_ev base b (va_rf v) = va_rf (v.map (jv_ea base b)) := by cases v <;> rfl
theorem jv_ea_inj {base b x y : Nat} (hb : b < base) (h : jv_ea base b x = jv_ea base b y) : x = y := by
  cases x <;> cases y <;> simp [jv_ea] at h ⊢ <;> omega
def jv_ce (base b : Nat) (cA : Nat → ClassId) (c : jv_C) : va_E := match c with
  | .inl (t, n, .inl f) => .inl (cA t, n, .inl f)
  | .inl (t, n, .inr f) => .inl (cA t, n, .inr (.inr (.inr (.inr (fun j => (f j).map (jv_ea base b))))))
  | .inr (ci, fs) => .inr (ci, fs.map (jv_ev base b))
def jv_ws (base b : Nat) (cA : Nat → ClassId) (h : jv_H) : va_W := (List.range h.1).map (fun k => (base + k, jv_ce base b cA (h.2.2 (k + 1))))
theorem jv_ws_at {base b : Nat} {cA : Nat → ClassId} {h : jv_H} {k : Nat} (hk : k < h.1) : (jv_ws base b cA h)[k]? = some (base + k, jv_ce base b cA (h.2.2 (k + 1))) := by
  simp [jv_ws, hk]
theorem jv_ws_out {base b : Nat} {cA : Nat → ClassId} {h : jv_H} {k : Nat} (hk : h.1 ≤ k) : (jv_ws base b cA h)[k]? = none := by
  simp [jv_ws, hk]
theorem jv_ws_put {base b : Nat} {cA : Nat → ClassId} {h : jv_H} {k : Nat} (hk : k < h.1) (x : jv_C) (w : Nat) : (jv_ws base b cA h).set k (base + k, jv_ce base b cA x) = jv_ws base b cA (h.1, w, va_up h.2.2 (k + 1) x) := by
  apply List.ext_getElem?
  intro i
  rw [List.getElem?_set]
  by_cases hi : k = i
  · subst hi
    rw [if_pos rfl, jv_ws_at (h := (h.1, w, va_up h.2.2 (k + 1) x)) hk]
    simp [jv_ws, hk, va_up]
  · rw [if_neg hi]
    by_cases hl : i < h.1
    · rw [jv_ws_at hl, jv_ws_at (h := (h.1, w, va_up h.2.2 (k + 1) x)) hl]
      have : ¬ i = k := by omega
      simp [va_up, this]
    · rw [jv_ws_out (by omega), jv_ws_out (h := (h.1, w, va_up h.2.2 (k + 1) x)) (by show h.1 ≤ i; omega)]
theorem jv_ws_push {base b : Nat} {cA : Nat → ClassId} {h : jv_H} (x : jv_C) (w : Nat) : jv_ws base b cA (h.1 + 1, w, va_up h.2.2 (h.1 + 1) x) = jv_ws base b cA h ++ [(base + h.1, jv_ce base b cA x)] := by
  apply List.ext_getElem?
  intro i
  by_cases hl : i < h.1
  · rw [List.getElem?_append_left (by simp [jv_ws, hl]), jv_ws_at hl, jv_ws_at (h := (h.1 + 1, w, va_up h.2.2 (h.1 + 1) x)) (by show i < h.1 + 1; omega)]
    have : ¬ i = h.1 := by omega
    simp [va_up, this]
  · rw [List.getElem?_append_right (by simp [jv_ws]; omega)]
    by_cases he : i = h.1
    · subst he
      rw [jv_ws_at (h := (h.1 + 1, w, va_up h.2.2 (h.1 + 1) x)) (by show h.1 < h.1 + 1; omega)]
      simp [va_up, jv_ws]
    · rw [jv_ws_out (h := (h.1 + 1, w, va_up h.2.2 (h.1 + 1) x)) (by show h.1 + 1 ≤ i; omega)]
      have : (jv_ws base b cA h).length = h.1 := by simp [jv_ws]
      rw [this]
      have h2 : ∃ j, i - h.1 = j + 1 := ⟨i - h.1 - 1, by omega⟩
      obtain ⟨j, hj⟩ := h2
      rw [hj]
      rfl
def jv_A (base : Nat) : Nat → Prop := fun q => base ≤ q
theorem jv_ws_D {base b : Nat} {cA : Nat → ClassId} {h : jv_H} : va_D (jv_A base) (jv_ws base b cA h) := by
  have key : ∀ (k : Nat) (q : Nat × va_E), (jv_ws base b cA h)[k]? = some q → q.1 = base + k := by
    intro k q hq
    by_cases hk : k < h.1
    · rw [jv_ws_at hk] at hq
      cases hq
      rfl
    · rw [jv_ws_out (by omega)] at hq
      cases hq
  refine ⟨fun i j x y hx hy hxy => ?_, fun k q hq => ?_⟩
  · rw [key i x hx, key j y hy] at hxy
    omega
  · show base ≤ q.1
    rw [key k q hq]
    omega
/-- the locals -/
def jv_asc (base b : Nat) (L : jv_L) : List (Nat × Value) := (List.range L.length).filterMap (fun k => (jv_ld L k).map (fun v => (k, jv_ev base b v)))
theorem jv_asc_mem {base b : Nat} {L : jv_L} {q : Nat × Value} : q ∈ jv_asc base b L ↔ ∃ v, jv_ld L q.1 = some v ∧ q.2 = jv_ev base b v := by
  unfold jv_asc
  rw [List.mem_filterMap]
  constructor
  · rintro ⟨k, -, hk⟩
    cases hv : jv_ld L k with
    | none => rw [hv] at hk; cases hk
    | some v => rw [hv] at hk; cases hk; exact ⟨v, hv, rfl⟩
  · rintro ⟨v, h1, h2⟩
    refine ⟨q.1, ?_, ?_⟩
    · rw [List.mem_range]
      unfold jv_ld at h1
      by_cases hl : q.1 < L.length
      · exact hl
      · rw [List.getElem?_eq_none (by omega)] at h1
        cases h1
    · rw [h1]
      show some (q.1, jv_ev base b v) = some q
      rw [← h2]
def jv_lv (base b nL : Nat) (L : jv_L) (ls : Array Slot) : Prop := lv_has ls nL (jv_asc base b L) ∧ L.length = nL ∧ ∀ k v, jv_ld L k = some v → v.category = 1
theorem jv_lv_at {base b nL : Nat} {L : jv_L} {ls : Array Slot} (h : jv_lv base b nL L ls) {k : Nat} {v : Value} (hv : jv_ld L k = some v) : ls[k]? = some (.val (jv_ev base b v)) := h.1.2.2 (k, jv_ev base b v) (jv_asc_mem.mpr ⟨v, hv, rfl⟩)
theorem jv_ld_set {L : jv_L} {i : Nat} (hi : i < L.length) (v : Value) (k : Nat) : jv_ld (L.set i (some v)) k = if k = i then some v else jv_ld L k := by
  unfold jv_ld
  rw [List.getElem?_set]
  by_cases h : i = k
  · subst h
    simp [hi]
  · have h2 : ¬ k = i := fun q => h q.symm
    simp [h, h2]
theorem jv_lv_set {base b nL : Nat} {L : jv_L} {ls ls' : Array Slot} {i : Nat} {v : Value} {w : Value} (h : jv_lv base b nL L ls) (hi : i < L.length) (hv : v.category = 1) (hw : w = jv_ev base b v)
    (hl : lv_has ls' nL ((i, w) :: (jv_asc base b L).filter (fun q => !(q.1 == i) && !(q.1 + 1 == i && q.2.category == 2)))) : jv_lv base b nL (L.set i (some v)) ls' := by
  refine ⟨⟨hl.1, hl.2.1, fun q hq => hl.2.2 q ?_⟩, by rw [List.length_set]; exact h.2.1, fun k u hk => ?_⟩
  · obtain ⟨u, h1, h2⟩ := jv_asc_mem.mp hq
    rw [jv_ld_set hi] at h1
    by_cases hk : q.1 = i
    · rw [if_pos hk] at h1
      cases h1
      have : q = (i, w) := Prod.ext hk (by rw [h2, hw])
      rw [this]
      exact List.mem_cons_self
    · rw [if_neg hk] at h1
      refine List.mem_cons_of_mem _ (List.mem_filter.mpr ⟨jv_asc_mem.mpr ⟨u, h1, h2⟩, ?_⟩)
      have hc : q.2.category = 1 := by rw [h2, jv_ev_cat]; exact h.2.2 _ _ h1
      simp [hk, hc]
  · rw [jv_ld_set hi] at hk
    by_cases hki : k = i
    · rw [if_pos hki] at hk; cases hk; exact hv
    · rw [if_neg hki] at hk; exact h.2.2 k u hk
theorem jv_args_mem : ∀ (vs : List Value), (∀ v ∈ vs, v.category = 1) → ∀ (i k : Nat) (v : Value), vs[k]? = some v → (i + k, v) ∈ lv_args i vs
  | [], _, _, _, _, h => by simp at h
  | u :: us, hc, i, 0, v, h => by
    simp at h
    subst h
    simp [lv_args]
  | u :: us, hc, i, k + 1, v, h => by
    have hu : u.category = 1 := hc u List.mem_cons_self
    have h2 := jv_args_mem us (fun w hw => hc w (List.mem_cons_of_mem _ hw)) (i + 1) k v (by simpa using h)
    unfold lv_args
    rw [if_neg (by omega)]
    refine List.mem_cons_of_mem _ ?_
    rw [show i + (k + 1) = i + 1 + k by omega]
    exact h2
theorem jv_sl_len : ∀ (vs : List Value), (∀ v ∈ vs, v.category = 1) → (lg_sl vs).length = vs.length
  | [], _ => rfl
  | u :: us, hc => by
    have hu : u.category = 1 := hc u List.mem_cons_self
    have h2 := jv_sl_len us (fun w hw => hc w (List.mem_cons_of_mem _ hw))
    unfold lg_sl at h2 ⊢
    rw [List.flatMap_cons, if_neg (by omega)]
    simp [h2]
theorem jv_lv_entry {base b n : Nat} {as : List Value} (hc : ∀ v ∈ as, v.category = 1) (hn : as.length ≤ n) : jv_lv base b n (as.map some ++ List.replicate (n - as.length) none) ((lg_sl (as.map (jv_ev base b)) ++ List.replicate (n - (lg_sl (as.map (jv_ev base b))).length) Slot.unset).toArray) := by
  have hc2 : ∀ v ∈ as.map (jv_ev base b), v.category = 1 := by
    intro v hv
    obtain ⟨u, hu, rfl⟩ := List.mem_map.mp hv
    rw [jv_ev_cat]
    exact hc u hu
  have hle : (lg_sl (as.map (jv_ev base b))).length ≤ n := by rw [jv_sl_len _ hc2, List.length_map]; exact hn
  have hld : ∀ k v, jv_ld (as.map some ++ List.replicate (n - as.length) none) k = some v → as[k]? = some v := by
    intro k v h
    unfold jv_ld at h
    by_cases hk : k < as.length
    · rw [List.getElem?_append_left (by simpa using hk)] at h
      simp [hk] at h
      simp [hk, h]
    · rw [List.getElem?_append_right (by simpa using hk)] at h
      by_cases hj : k - (as.map some).length < n - as.length
      · rw [List.getElem?_replicate, if_pos hj] at h
        cases h
      · rw [List.getElem?_replicate, if_neg hj] at h
        cases h
  have he := lv_entry (as.map (jv_ev base b)) (n := n) hle
  refine ⟨⟨he.1, he.2.1, fun q hq => he.2.2 q ?_⟩, by simp; omega, fun k v h => hc v (List.mem_of_getElem? (hld k v h))⟩
  obtain ⟨v, h1, h2⟩ := jv_asc_mem.mp hq
  have h3 := jv_args_mem (as.map (jv_ev base b)) hc2 0 q.1 (jv_ev base b v) (by rw [List.getElem?_map, hld _ _ h1]; rfl)
  rw [Nat.zero_add, ← h2] at h3
  exact h3
/-! what a program's tables must be -/
def jg_mws (G : jv_G) (mi : Nat) : List Cond := Cond.code (jg_y G mi) (jg_code G mi) (jg_maxL G mi) (jg_ret G mi) :: jg_ws G
def jg_mok (G : jv_G) (mi : Nat) : Prop := plainName (jg_y G mi).cls = true ∧ jg_maxL G mi ≤ 1000 ∧ Cond.code (jg_y G mi) (jg_code G mi) (jg_maxL G mi) (jg_ret G mi) ∈ jg_ws G ∧ Cond.initialized (jg_y G mi).cls ∈ jg_ws G ∧ (jg_y G mi).cls ≠ "java/lang/invoke/MethodHandle" ∧ (jg_y G mi).cls ≠ "java/lang/invoke/VarHandle"
def jg_lok (G : jv_G) (mi i y : Nat) : Prop := Cond.methodLink (jg_own G mi) i (jg_y G y) ∈ jg_ws G ∨ ∃ host, Cond.methodLinkNest (jg_own G mi) i (jg_y G y) host ∈ jg_nw G
def jg_eok (G : jv_G) (mi y : Nat) : Prop := jg_fr G y + 1 ≤ jg_fr G mi ∧ 8 + (jg_maxL G y + 11) + jg_lo G y ≤ jg_lo G mi
def jg_cok (G : jv_G) (mi i k y n : Nat) : Prop := match k with
  | 0 => jg_mok G y ∧ jg_eok G mi y ∧ jg_lok G mi i y ∧ (parseMethodDescriptor (jg_y G y).desc).map (fun d => d.parameters.length) = some n ∧ Cond.instanceMethod (jg_y G y) ∈ jg_ws G ∧ Cond.selects (jg_y G y).cls (jg_y G y) (jg_y G y) ∈ jg_ws G ∧ ∃ q, (jg_cls G)[jg_mc G y]? = some q ∧ q.1.1 = (jg_y G y).cls
  | 1 => jg_mok G y ∧ jg_eok G mi y ∧ jg_lok G mi i y ∧ (parseMethodDescriptor (jg_y G y).desc).map (fun d => d.parameters.length) = some n ∧ Cond.static (jg_y G y) ∈ jg_ws G
  | 2 => jg_mok G y ∧ jg_eok G mi y ∧ jg_lok G mi i y ∧ (parseMethodDescriptor (jg_y G y).desc).map (fun d => d.parameters.length) = some n ∧ Cond.instanceMethod (jg_y G y) ∈ jg_ws G ∧ (jg_y G y).name = "<init>" ∧ jg_ret G y = none
  | 3 => Cond.methodLink (jg_own G mi) i objectInit ∈ jg_ws G ∧ Cond.instanceMethod objectInit ∈ jg_ws G ∧ Cond.code objectInit ⟨#[0xb1]⟩ 1 none ∈ jg_ws G ∧ 1 ≤ jg_fr G mi ∧ 20 ≤ jg_lo G mi
  | _ => True
def jg_nf (w : Cond) : Prop := (∃ a i b n d h, w = Cond.fieldLinkNest a i b n d h) ∨ ∃ a i x h, w = Cond.methodLinkNest a i x h
def jg_clok (G : jv_G) (q : vw_C × (Nat → FieldType)) : Prop := (∀ w ∈ u_ws q.1.1 q.1.2.1 q.1.2.2, w ∈ jg_ws G) ∧ (∀ k, k < q.1.2.2 → parseFieldDescriptor (q.1.2.1 k).2.2.1 = some (q.2 k)) ∧ (∀ a, a < q.1.2.2 → ∀ b, b < q.1.2.2 → a ≠ b → (q.1.2.1 a).2.1 ≠ (q.1.2.1 b).2.1)
def jg_flok (G : jv_G) (mi i ci k : Nat) : Prop := ∃ q, (jg_cls G)[ci]? = some q ∧ k < q.1.2.2 ∧ (Cond.fieldLink (jg_own G mi) i (q.1.2.1 k).1 (q.1.2.1 k).2.1 (q.1.2.1 k).2.2.1 ∈ jg_ws G ∨ ((q.1.2.1 k).1 ≠ jg_own G mi ∧ ∃ host, Cond.fieldLinkNest (jg_own G mi) i (q.1.2.1 k).1 (q.1.2.1 k).2.1 (q.1.2.1 k).2.2.1 host ∈ jg_nw G))
def jg_nwok (G : jv_G) (mi i ci : Nat) : Prop := ∃ q, (jg_cls G)[ci]? = some q ∧ Cond.classLink (jg_own G mi) i q.1.1 ∈ jg_ws G ∧ Cond.instantiable q.1.1 q.1.2.2 ∈ jg_ws G ∧ Cond.initialized q.1.1 ∈ jg_ws G
def jg_anok (G : jv_G) (mi i t : Nat) : Prop := ∃ C ci, (jg_tys G)[t]? = some (.object C, ci) ∧ Cond.classLink (jg_own G mi) i C ∈ jg_ws G
def jg_ok (G : jv_G) : Prop :=
  (jg_cls G).length ≤ 999 ∧ (∀ w ∈ jg_nw G, jg_nf w) ∧ (∀ w ∈ jg_ws G, (w.onTables && w.keeps) = true ∨ ∃ ty, w = .arrayClass ty) ∧ (∀ q ∈ jg_cls G, jg_clok G q) ∧
  (∀ mi i ci k, jg_fld G mi i = some (ci, k) → jg_flok G mi i ci k) ∧ (∀ mi i k y n, jg_inv G mi i = some (k, y, n) → jg_cok G mi i k y n) ∧
  (∀ mi i ci, jg_new G mi i = some ci → jg_nwok G mi i ci) ∧ (∀ mi i t, jg_anw G mi i = some t → jg_anok G mi i t) ∧
  (∀ mi i v, jg_ldc G mi i = some v → Cond.constant (jg_own G mi) i v ∈ jg_ws G) ∧ (∀ mi i v, jg_ldl G mi i = some v → Cond.constantLong (jg_own G mi) i v ∈ jg_ws G) ∧
  (jg_tys G)[0]? = some (.int, 999) ∧ (jg_tys G)[1]? = some (.boolean, 999) ∧ Cond.arrayClass .int ∈ jg_ws G ∧ Cond.arrayClass .boolean ∈ jg_ws G ∧
  (∀ (t : Nat) (ty : FieldType) (ci : Nat), (jg_tys G)[t]? = some (ty, ci) → 2 ≤ t → ∃ C q, ty = .object C ∧ (jg_cls G)[ci]? = some q ∧ q.1.1 = C)
end
section
/-! ===== the rows of the heap, with the heap's size kept ===== -/
section JvRows
variable {p : Program} {l : Launch} {e : Env} {R : Room} {s : State} {m : MethodId} {args : Array Value} {below : List Frame} {meth : Method} {c : Code} {H : Heap} {locs : List Loc} {cells slots : Nat} {Q : State → Prop}
variable {cc : ByteArray} {pc : Nat} {ls : Array Slot} {rest : List Value} {D : va_G} {cl : List vw_C} {A : Nat → Prop} {a : Nat} {tys : List (ClassId × FieldType)} {ws : va_W} {H0 : Heap}
/-- what is left to do behind a store at the cell a -/
abbrev jw_K (p : Program) (l : Launch) (e : Env) (R : Room) (s : State) (m : MethodId) (args : Array Value) (below : List Frame) (meth : Method) (c : Code) (H : Heap) (cells slots : Nat) (Q : State → Prop) (D : va_G) (cl : List vw_C) (A : Nat → Prop) (H0 : Heap) (a : Nat) (ws1 : va_W) (g : JFrame) : Prop :=
  ∀ (H1 : Heap) (locs1 : List Loc), H1.size = H.size → (∀ q : Nat, q ≠ a → H1[q]? = H[q]?) → va_P D cl ws1 H1 → va_S A H0 H1 locs1 → W p l e R s m args below meth c H1 locs1 cells slots Q g
theorem jw_put (hexec : p.tables.exec = Jvm.exec) (hb : c.code = cc) {own C : String} {T : u_T} {N ci index : Nat} {Ts : List Cond} (hts : ∀ w ∈ Ts, w.before args s = true) (hin : ∀ w ∈ u_ws C T N, w ∈ Ts) (ty0 : Nat → FieldType) (hty : ∀ k, k < N → parseFieldDescriptor (T k).2.2.1 = some (ty0 k)) (hnm : ∀ a, a < N → ∀ b, b < N → a ≠ b → (T a).2.1 ≠ (T b).2.1) (hown : s.vm.findClass own = some m.cls) (hK : va_K D cl tys s) (hP : va_P D cl ws H) (hD : va_D A ws) (hS0 : va_S A H0 H locs) (q0 : Nat) {fs : List Value} (he : ws[q0]? = some (a, .inr (ci, fs))) (hc : cl[ci]? = some (C, T, N)) (k : Nat) (hk : k < N)
    (hlink : (Cond.fieldLink own index (T k).1 (T k).2.1 (T k).2.2.1).before args s = true ∨ ∃ host, (Cond.fieldLinkNest own index (T k).1 (T k).2.1 (T k).2.2.1 host).before args s = true) (hfin : (T k).2.2.2 = false) {v : Value} (hn : narrow (ty0 k) v = v) (hfit : fits (ty0 k) v = true) (hl : k < fs.length)
    (hdg : decode cc pc = .ok (.putfield index, 3)) (kk : jw_K p l e R s m args below meth c H cells slots Q D cl A H0 a (ws.set q0 (a, .inr (ci, fs.set k v))) (F0 m (pc + 3) ls rest)) : W p l e R s m args below meth c H locs cells slots Q (F0 m pc ls (v :: .ref a :: rest)) := by
  have hap := va_apart (own := own) hts hin ty0 hty hnm hK hc
  obtain ⟨r, h1, cell, q1, q2, q3, q4⟩ := hP q0 _ he
  have hr : r = (C, T, N) := Option.some.inj (h1.symm.trans hc)
  subst hr
  obtain ⟨hS, hfc, kC, hkC, hkind⟩ := hK.1 ci _ hc
  obtain ⟨cf, kf, fi, f, hi, hsl⟩ := hS k hk
  have hlay := hts _ (hin _ (u_in_lay hk))
  unfold u_lay at hlay
  rw [if_neg (by rw [hfin]; decide)] at hlay
  have hst := (u_facts hfc hkC (u_lays hts hin hk) hi).1
  have h6 := u_store hfc hkC hkind hlay hi (hty k hk) hn hfit
  have fin : ∀ H' : Heap, H'[a]? = some (cell.setSlot f.slot v) → H'.size = H.size → (∀ q : Nat, q ≠ a → H'[q]? = H[q]?) → W p l e R s m args below meth c H' (locs ++ [⟨a, f.slot⟩]) cells slots Q (F0 m (pc + 3) ls rest) := by
    intro H' e1 e2 e3
    rw [hsl] at e1 ⊢
    exact kk H' _ e2 e3 (hP.set hD he ⟨_, hc, t_OB.to (V := updV (vp_V fs) k v) ⟨_, e1, q2, q3, t_set q4 hap hk v⟩ (fun j _ => vp_updV_set hl v j)⟩ e3) (hS0.put e2 e3 (hD.2 q0 _ he))
  rcases hlink with hlink | ⟨host, hlink⟩
  · exact W.putK hexec hb (f := f) ⟨hown, hlink, ⟨_, _, _, hi⟩, hst⟩ (by rw [q2]; exact h6) q1 q3 (by rw [hsl]; exact k2_hasslot (q4 k hk)) rfl rfl hdg fin
  · exact va_WputK hexec hb (f := f) hown hlink hi hst (by rw [q2]; exact h6) q1 q3 (by rw [hsl]; exact k2_hasslot (q4 k hk)) rfl rfl hdg fin
theorem jw_putF (hexec : p.tables.exec = Jvm.exec) (hb : c.code = cc) {own C : String} {T : u_T} {N ci index : Nat} {Ts : List Cond} (hts : ∀ w ∈ Ts, w.before args s = true) (hin : ∀ w ∈ u_ws C T N, w ∈ Ts) (ty0 : Nat → FieldType) (hty : ∀ k, k < N → parseFieldDescriptor (T k).2.2.1 = some (ty0 k)) (hnm : ∀ a, a < N → ∀ b, b < N → a ≠ b → (T a).2.1 ≠ (T b).2.1) (hown : s.vm.findClass own = some m.cls) (hK : va_K D cl tys s) (hP : va_P D cl ws H) (hD : va_D A ws) (hS0 : va_S A H0 H locs) (q0 : Nat) {fs : List Value} (he : ws[q0]? = some (a, .inr (ci, fs))) (hc : cl[ci]? = some (C, T, N)) (k : Nat) (hk : k < N)
    (hlink : (Cond.fieldLink own index (T k).1 (T k).2.1 (T k).2.2.1).before args s = true) (hfin : (T k).2.2.2 = true) (hin2 : meth.name = "<init>") (hdecl : (T k).1 = own) {v : Value} (hn : narrow (ty0 k) v = v) (hfit : fits (ty0 k) v = true) (hl : k < fs.length)
    (hdg : decode cc pc = .ok (.putfield index, 3)) (kk : jw_K p l e R s m args below meth c H cells slots Q D cl A H0 a (ws.set q0 (a, .inr (ci, fs.set k v))) (F0 m (pc + 3) ls rest)) : W p l e R s m args below meth c H locs cells slots Q (F0 m pc ls (v :: .ref a :: rest)) := by
  have hap := va_apart (own := own) hts hin ty0 hty hnm hK hc
  obtain ⟨r, h1, cell, q1, q2, q3, q4⟩ := hP q0 _ he
  have hr : r = (C, T, N) := Option.some.inj (h1.symm.trans hc)
  subst hr
  obtain ⟨hS, hfc, kC, hkC, hkind⟩ := hK.1 ci _ hc
  obtain ⟨cf, kf, fi, f, hi, hsl⟩ := hS k hk
  have hlay := hts _ (hin _ (u_in_lay hk))
  unfold u_lay at hlay
  rw [if_pos hfin] at hlay
  have hst := (u_facts hfc hkC (u_lays hts hin hk) hi).1
  have hcf : m.cls = cf := by
    obtain ⟨_, _, c', _, _, _, -, -, hf', -, -, -, hown2, -⟩ := Cond.laysFinal_spec hlay
    have e1 : c' = cf := by have := hi.symm.trans hf'; simp at this; exact this.1.symm
    rw [hdecl] at hown2
    rw [← e1]; exact Option.some.inj (hown.symm.trans hown2)
  have h6 := u_fits hfc hkC hkind (Or.inr hlay) hi (hty k hk) hn hfit
  refine W.putFinK hexec hb hown hlink hi hst hcf hin2 (by rw [q2]; exact h6) q1 q3 (by rw [hsl]; exact k2_hasslot (q4 k hk)) rfl rfl hdg fun H' e1 e2 e3 => ?_
  rw [hsl] at e1 ⊢
  exact kk H' _ e2 e3 (hP.set hD he ⟨_, hc, t_OB.to (V := updV (vp_V fs) k v) ⟨_, e1, q2, q3, t_set q4 hap hk v⟩ (fun j _ => vp_updV_set hl v j)⟩ e3) (hS0.put e2 e3 (hD.2 q0 _ he))
theorem jw_iast (hexec : p.tables.exec = Jvm.exec) (hb : c.code = cc) (hK : va_K D cl tys s) (hP : va_P D cl ws H) (hD : va_D A ws) (hS : va_S A H0 H locs) (q0 t0 : Nat) {cA : ClassId} {n : Nat} {f : Nat → Int32} (ha : ws[q0]? = some (a, .inl (cA, n, .inl f))) (ht : tys[t0]? = some (cA, .int)) {i : Int32} {x : Int32} (hin : vp_in i n) (hdg : decode cc pc = .ok (.iastore, 1))
    (kk : jw_K p l e R s m args below meth c H cells slots Q D cl A H0 a (ws.set q0 (a, .inl (cA, n, .inl (va_up f i.toNatClampNeg x)))) (F0 m (pc + 1) ls rest)) : W p l e R s m args below meth c H locs cells slots Q (F0 m pc ls (.int x :: .int i :: .ref a :: rest)) := by
  refine W.iast hexec hb (hP q0 _ ha) ((hK.2 t0 _ ht).1 n (fun j => .int (f j))) (fun q => by cases q) (by show ¬ (i < 0 ∨ (arrV _ _ _).slots.size ≤ _); rw [arrV_size]; exact hin) rfl rfl hdg fun H1 e z oq => ?_
  refine kk H1 _ z oq (hP.set hD ha ?_ oq) (hS.put z oq (hD.2 q0 _ ha))
  show H1[a]? = some (vp_cell _ _)
  rw [e, vp_cell_i, vp_cell_i, arrV_store]
  congr 2
  funext q
  by_cases hq : q = i.toNatClampNeg <;> simp [updV, va_up, hq]
theorem jw_zast (hexec : p.tables.exec = Jvm.exec) (hb : c.code = cc) (hK : va_K D cl tys s) (hP : va_P D cl ws H) (hD : va_D A ws) (hS : va_S A H0 H locs) (q0 t0 : Nat) {cA : ClassId} {n : Nat} {f : Nat → Int32} (ha : ws[q0]? = some (a, .inl (cA, n, .inl f))) (ht : tys[t0]? = some (cA, .boolean)) {i : Int32} {x : Int32} (hx : x = 0 ∨ x = 1) (hin : vp_in i n) (hdg : decode cc pc = .ok (.bastore, 1))
    (kk : jw_K p l e R s m args below meth c H cells slots Q D cl A H0 a (ws.set q0 (a, .inl (cA, n, .inl (va_up f i.toNatClampNeg x)))) (F0 m (pc + 1) ls rest)) : W p l e R s m args below meth c H locs cells slots Q (F0 m pc ls (.int x :: .int i :: .ref a :: rest)) := by
  have hnx : narrow .boolean (.int x) = .int x := by rcases hx with rfl | rfl <;> rfl
  refine W.zast hexec hb (hP q0 _ ha) ((hK.2 t0 _ ht).1 n (fun j => .int (f j))) (fun q => by cases q) (by show ¬ (i < 0 ∨ (arrV _ _ _).slots.size ≤ _); rw [arrV_size]; exact hin) rfl rfl hdg fun H1 e z oq => ?_
  refine kk H1 _ z oq (hP.set hD ha ?_ oq) (hS.put z oq (hD.2 q0 _ ha))
  show H1[a]? = some (vp_cell _ _)
  rw [e, hnx, vp_cell_i, vp_cell_i, arrV_store]
  congr 2
  funext q
  by_cases hq : q = i.toNatClampNeg <;> simp [updV, va_up, hq]
theorem jw_astq (hexec : p.tables.exec = Jvm.exec) (hb : c.code = cc) (hK : va_K D cl tys s) (hP : va_P D cl ws H) (hD : va_D A ws) (hS : va_S A H0 H locs) (q0 t0 qk ci : Nat) {cA : ClassId} {r : vw_C} {n v : Nat} {vs : List Value} {f : Nat → Option Nat} (ha : ws[q0]? = some (a, .inl (cA, n, .inr (.inr (.inr (.inr f)))))) (ht : tys[t0]? = some (cA, .object r.1)) (hv : ws[qk]? = some (v, .inr (ci, vs))) (hc : cl[ci]? = some r) {i : Int32} (hin : vp_in i n) (hdg : decode cc pc = .ok (.aastore, 1))
    (kk : jw_K p l e R s m args below meth c H cells slots Q D cl A H0 a (ws.set q0 (a, .inl (cA, n, .inr (.inr (.inr (.inr (va_up f i.toNatClampNeg (some v)))))))) (F0 m (pc + 1) ls rest)) : W p l e R s m args below meth c H locs cells slots Q (F0 m pc ls (.ref v :: .int i :: .ref a :: rest)) := by
  have hlt : i.toNatClampNeg < n := Nat.not_le.mp fun q => hin (Or.inr q)
  have h0 : ¬ i < 0 := fun q => hin (Or.inl q)
  obtain ⟨r', hr', cellV, g1, g2, g3, -⟩ := hP qk _ hv
  have hcls := (hK.1 ci r hc).2
  obtain ⟨kA, comp, k1, k2, k3, -⟩ := (hK.2 t0 _ ht).2
  have hcomp : comp = D.1 ci := Option.some.inj (k3.symm.trans hcls.1)
  subst hcomp
  obtain ⟨kC, hkC, -⟩ := hcls.2
  refine W.aast hexec hb (hP q0 _ ha) (fun q h => by cases h) (fun h => by cases h) k1 k2 rfl hkC ⟨h0, by show _ < (arrV _ _ _).slots.size; rw [arrV_size]; exact hlt⟩ g1 (fun q h => by rw [g3] at h; cases h) (by rw [g2]; exact hkC) (by rw [g2]; exact va_assign hcls) rfl rfl hdg fun H1 e z oq => ?_
  refine kk H1 _ z oq (hP.set hD ha ?_ oq) (hS.put z oq (hD.2 q0 _ ha))
  show H1[a]? = some (vp_cell _ _)
  rw [e, vp_cell_q, vp_cell_q, arrV_store]
  congr 2
  funext q
  by_cases hq : q = i.toNatClampNeg <;> simp [updV, va_up, va_rf, hq]
theorem jw_astqN (hexec : p.tables.exec = Jvm.exec) (hb : c.code = cc) (hK : va_K D cl tys s) (hP : va_P D cl ws H) (hD : va_D A ws) (hS : va_S A H0 H locs) (q0 t0 : Nat) {cA : ClassId} {C : String} {n : Nat} {f : Nat → Option Nat} (ha : ws[q0]? = some (a, .inl (cA, n, .inr (.inr (.inr (.inr f)))))) (ht : tys[t0]? = some (cA, .object C)) {i : Int32} (hin : vp_in i n) (hdg : decode cc pc = .ok (.aastore, 1))
    (kk : jw_K p l e R s m args below meth c H cells slots Q D cl A H0 a (ws.set q0 (a, .inl (cA, n, .inr (.inr (.inr (.inr (va_up f i.toNatClampNeg none))))))) (F0 m (pc + 1) ls rest)) : W p l e R s m args below meth c H locs cells slots Q (F0 m pc ls (.null :: .int i :: .ref a :: rest)) := by
  refine va_WaastN (C := C) hexec hb (hP q0 _ ha) ((hK.2 t0 _ ht).1 n (fun j => va_rf (f j))) (fun h => by cases h) (by show ¬ (i < 0 ∨ (arrV _ _ _).slots.size ≤ _); rw [arrV_size]; exact hin) rfl rfl hdg fun H1 e z oq => ?_
  refine kk H1 _ z oq (hP.set hD ha ?_ oq) (hS.put z oq (hD.2 q0 _ ha))
  show H1[a]? = some (vp_cell _ _)
  rw [e, vp_cell_q, vp_cell_q, arrV_store]
  congr 2
  funext q
  by_cases hq : q = i.toNatClampNeg <;> simp [updV, va_up, va_rf, hq]
/-- what is left to do behind a new cell -/
abbrev jw_N (p : Program) (l : Launch) (e : Env) (R : Room) (s : State) (m : MethodId) (args : Array Value) (below : List Frame) (meth : Method) (c : Code) (H : Heap) (locs : List Loc) (cells slots : Nat) (Q : State → Prop) (D : va_G) (cl : List vw_C) (A : Nat → Prop) (H0 : Heap) (ws1 : va_W) (g : JFrame) : Prop :=
  ∀ (H1 : Heap), H1.size = H.size + 1 → (∀ q : Nat, q < H.size → H1[q]? = H[q]?) → va_P D cl ws1 H1 → va_S A H0 H1 locs → W p l e R s m args below meth c H1 locs cells slots Q g
theorem jw_new (hexec : p.tables.exec = Jvm.exec) (hb : c.code = cc) {own C : String} {T : u_T} {N ci index : Nat} {Ts : List Cond} (hts : ∀ w ∈ Ts, w.before args s = true) (hin : ∀ w ∈ u_ws C T N, w ∈ Ts) (ty : Nat → FieldType) (hty : ∀ k, k < N → parseFieldDescriptor (T k).2.2.1 = some (ty k)) (hown : s.vm.findClass own = some m.cls) (hcl : (Cond.classLink own index C).before args s = true) (hinst : (Cond.instantiable C N).before args s = true) (hini : (Cond.initialized C).before args s = true)
    (hK : va_K D cl tys s) (hP : va_P D cl ws H) (hS : va_S A H0 H locs) (hc : cl[ci]? = some (C, T, N)) {fs : List Value} (hfs : ∀ j, j < N → defaultValue (ty j) = vp_V fs j) (hcells : cells + 1 ≤ R.cells) (hslots : slots + N ≤ R.slots) (hdg : decode cc pc = .ok (.new index, 3))
    (kk : jw_N p l e R s m args below meth c H locs (cells + 1) (slots + N) Q D cl A H0 (ws ++ [(H.size, .inr (ci, fs))]) (F0 m (pc + 3) ls (.ref H.size :: rest))) : W p l e R s m args below meth c H locs cells slots Q (F0 m pc ls rest) := by
  have hKn := hK.1 ci _ hc
  refine W.newcK hexec hb hown hcl hinst hini rfl hdg hcells hslots hKn.2.1 rfl fun H1 kC hkC e1 z1 o1 => ?_
  have hk : ∀ (k : Nat) (x : Nat × va_E), ws[k]? = some x → H1[x.1]? = H[x.1]? := fun k x hx => o1 x.1 ((hP k x hx).lt)
  refine kk H1 z1 o1 ((hP.kept hk).app (fun k x hx => ?_)) ⟨Nat.le_trans hS.1 (by omega), fun x h1 h2 => (o1 x (Nat.lt_of_lt_of_le h1 hS.1)).trans (hS.2.1 x h1 h2), hS.2.2⟩
  have hz : k < 1 := (List.getElem?_eq_some_iff.mp hx).1
  rw [show k = 0 by omega] at hx
  cases hx
  exact ⟨_, hc, (u_born ty hts hin hKn hkC e1 hty).to hfs⟩
theorem jw_newa (hexec : p.tables.exec = Jvm.exec) (hb : c.code = cc) {atype : ArrayType} (harr : (Cond.arrayClass (newarray.typeOf atype)).before args s = true) {ty : FieldType} (hty : newarray.typeOf atype = ty) (hd0 : defaultValue ty = .int 0) (hK : va_K D cl tys s) (hP : va_P D cl ws H) (hS : va_S A H0 H locs) {t0 : Nat} {cA : ClassId} (ht : tys[t0]? = some (cA, ty)) (hpr : ∀ C, ty ≠ .object C)
    {n : Int32} {N' : Nat} (hn : ¬ n < 0) (hN : n.toNatClampNeg = N') (hbytes : N' * componentBytes ty ≤ 536870912) (hcells : cells + 1 ≤ R.cells) (hslots : slots + N' ≤ R.slots) (hdg : decode cc pc = .ok (.newarray atype, 2))
    (kk : jw_N p l e R s m args below meth c H locs (cells + 1) (slots + N') Q D cl A H0 (ws ++ [(H.size, .inl (cA, N', .inl (fun _ => 0)))]) (F0 m (pc + 2) ls (.ref H.size :: rest))) : W p l e R s m args below meth c H locs cells slots Q (F0 m pc ls (.int n :: rest)) := by
  subst hty
  refine va_newaK hexec hb harr rfl hdg rfl hn hN hbytes hcells hslots rfl fun H1 cA' e1 z1 o1 hAr hNm => ?_
  have hcA : cA' = cA := by
    have h2 := (hK.2 t0 _ ht).2
    have h3 : s.vm.findClass ("[" ++ (newarray.typeOf atype).toString) = some cA := by
      cases atype <;> exact h2
    exact Option.some.inj (hNm.symm.trans h3)
  subst hcA
  have hk : ∀ (k : Nat) (x : Nat × va_E), ws[k]? = some x → H1[x.1]? = H[x.1]? := fun k x hx => o1 x.1 ((hP k x hx).lt)
  refine kk H1 z1 o1 ((hP.kept hk).app (fun k x hx => ?_)) ⟨Nat.le_trans hS.1 (by omega), fun x h1 h2 => (o1 x (Nat.lt_of_lt_of_le h1 hS.1)).trans (hS.2.1 x h1 h2), hS.2.2⟩
  have hz : k < 1 := (List.getElem?_eq_some_iff.mp hx).1
  rw [show k = 0 by omega] at hx
  cases hx
  show H1[H.size]? = some (vp_cell _ _)
  rw [vp_cell_i, e1, hd0]
theorem jw_newq (hexec : p.tables.exec = Jvm.exec) (hb : c.code = cc) {own C : String} {index : Nat} (hown : s.vm.findClass own = some m.cls) (hclink : (Cond.classLink own index C).before args s = true) (hover : va_AO C s) (hK : va_K D cl tys s) (hP : va_P D cl ws H) (hS : va_S A H0 H locs) {t0 : Nat} {cA : ClassId} (ht : tys[t0]? = some (cA, .object C))
    {n : Int32} {N' : Nat} (hn : ¬ n < 0) (hN : n.toNatClampNeg = N') (hbytes : N' * 4 ≤ 536870912) (hcells : cells + 1 ≤ R.cells) (hslots : slots + N' ≤ R.slots) (hdg : decode cc pc = .ok (.anewarray index, 3))
    (kk : jw_N p l e R s m args below meth c H locs (cells + 1) (slots + N') Q D cl A H0 (ws ++ [(H.size, .inl (cA, N', .inr (.inr (.inr (.inr (fun _ => none))))))]) (F0 m (pc + 3) ls (.ref H.size :: rest))) : W p l e R s m args below meth c H locs cells slots Q (F0 m pc ls (.int n :: rest)) := by
  subst hN
  refine W.anew hexec hb hown hclink (va_AO.use hover) rfl hdg rfl hn hbytes hcells hslots fun cA' kA comp f1 f2 f3 f4 => ?_
  have hcA : cA' = cA := by
    obtain ⟨kA2, comp2, g1, g2, g3, g4⟩ := (hK.2 t0 _ ht).2
    exact Option.some.inj (f1.symm.trans g4)
  subst hcA
  generalize hH1 : H.push ({ cls := cA', slots := Array.replicate n.toNatClampNeg .null, vm := .none } : Cell) = H1
  have z1 : H1.size = H.size + 1 := by rw [← hH1, Array.size_push]
  have e1 : H1[H.size]? = some (arrV cA' n.toNatClampNeg (fun _ => .null)) := by rw [← hH1, Array.getElem?_push_size, ← arrV_new]
  have o1 : ∀ q : Nat, q < H.size → H1[q]? = H[q]? := fun q hq => by rw [← hH1, Array.getElem?_push, if_neg (Nat.ne_of_lt hq)]
  have hk : ∀ (k : Nat) (x : Nat × va_E), ws[k]? = some x → H1[x.1]? = H[x.1]? := fun k x hx => o1 x.1 ((hP k x hx).lt)
  refine kk H1 z1 o1 ((hP.kept hk).app (fun k x hx => ?_)) ⟨Nat.le_trans hS.1 (by omega), fun x h1 h2 => (o1 x (Nat.lt_of_lt_of_le h1 hS.1)).trans (hS.2.1 x h1 h2), hS.2.2⟩
  have hz : k < 1 := (List.getElem?_eq_some_iff.mp hx).1
  rw [show k = 0 by omega] at hx
  cases hx
  show H1[H.size]? = some (vp_cell _ _)
  rw [vp_cell_q]
  exact e1
end JvRows
end
section
/-! ===== a step of the small machine is a step of the machine ===== -/
def jv_tyl (G : jv_G) (cA : Nat → ClassId) : List (ClassId × FieldType) := (List.range (jg_tys G).length).map (fun t => (cA t, ((jg_tys G).getD t (.int, 0)).1))
theorem jv_tyl_at {G : jv_G} {cA : Nat → ClassId} {t : Nat} {q : FieldType × Nat} (h : (jg_tys G)[t]? = some q) : (jv_tyl G cA)[t]? = some (cA t, q.1) := by
  have hl := (List.getElem?_eq_some_iff.mp h).1
  have h2 := (List.getElem?_eq_some_iff.mp h).2
  simp [jv_tyl, hl, List.getD, h2]
def jv_K (G : jv_G) (D : va_G) (cA : Nat → ClassId) (U : State) : Prop := va_K D (jg_cl G) (jv_tyl G cA) U ∧ (∀ w ∈ jg_nw G, va_Nw w U) ∧ ∀ (t : Nat) (C : String) (ci : Nat), (jg_tys G)[t]? = some (FieldType.object C, ci) → va_AO C U
theorem jv_K.warm {G : jv_G} {D : va_G} {cA : Nat → ClassId} {s U : State} (hn : ∀ w ∈ jg_nw G, jg_nf w) (hW : s.WarmedH U.vm) (h : jv_K G D cA s) : jv_K G D cA U := by
  refine ⟨va_K.moved hW.alike h.1, fun w hw => ?_, fun t C ci ht => (h.2.2 t C ci ht).moved hW.alike⟩
  have hz := h.2.1 w hw
  rcases hn w hw with ⟨a, i, b, n, d, k, rfl⟩ | ⟨a, i, x, k, rfl⟩
  · exact va_Nw.warmF hW hz
  · exact va_Nw.warmM hW hz
theorem jv_K.same {G : jv_G} {D : va_G} {cA : Nat → ClassId} {s U : State} (hn : ∀ w ∈ jg_nw G, jg_nf w) (hv : s.vm = U.vm) (h : jv_K G D cA s) : jv_K G D cA U := by
  have ha : s.vm.Alike U.vm := by rw [hv]; exact Vm.Alike.refl _
  refine ⟨va_K.moved ha h.1, fun w hw => ?_, fun t C ci ht => (h.2.2 t C ci ht).moved ha⟩
  have hz := h.2.1 w hw
  rcases hn w hw with ⟨a, i, b, n, d, k, rfl⟩ | ⟨a, i, x, k, rfl⟩
  · exact va_Nw.same rfl hv hz
  · exact va_Nw.same rfl hv hz
def jv_Wd (G : jv_G) (X : Nat × (Nat → Int32)) (D : va_G) (base b : Nat) (cA : Nat → ClassId) (h : jv_H) (U : State) (H : Heap) : Prop := H.size = base + h.1 ∧ va_P D (jg_cl G) (jv_ws base b cA h) H ∧ va_X b X.1 X.2 U H
theorem jv_Wd.moved {G : jv_G} {X : Nat × (Nat → Int32)} {D : va_G} {base b : Nat} {cA : Nat → ClassId} {h : jv_H} {u U : State} {H : Heap} (hvm : u.vm.Alike U.vm) (hw : jv_Wd G X D base b cA h u H) : jv_Wd G X D base b cA h U H := ⟨hw.1, hw.2.1, hw.2.2.moved hvm⟩
def jv_Pc (G : jv_G) (X : Nat × (Nat → Int32)) (D : va_G) (base b : Nat) (cA : Nat → ClassId) (as : List Value) (h : jv_H) : Array Value → State → Prop := va_Pc (as.map (jv_ev base b)) (fun U => jv_Wd G X D base b cA h U U.heap ∧ jv_K G D cA U)
def jv_Qc (G : jv_G) (X : Nat × (Nat → Int32)) (D : va_G) (base b : Nat) (cA : Nat → ClassId) (r : Option Value) (h : jv_H) : Array Value → State → Outcome → State → Prop := fun _ st o t => o = .returned (r.map (jv_ev base b)) ∧ jv_Wd G X D base b cA h t t.heap ∧ va_F (jv_A base) st t
def jv_room (G : jv_G) (mi mc ms : Nat) : Room := { frames := jg_fr G mi, cells := mc, slots := ms, locals := jg_lo G mi }
def jv_Met (G : jv_G) (X : Nat × (Nat → Int32)) (D : va_G) (base b : Nat) (cA : Nat → ClassId) (l : Launch) (mi : Nat) (as : List Value) (h : jv_H) (r : Option Value) (h' : jv_H) : Prop :=
  Met l (jg_y G mi) (jg_mws G mi) (jv_room G mi (h'.1 - h.1) (h'.2.1 - h.2.1)) (jv_Pc G X D base b cA as h) (jv_Qc G X D base b cA r h') (h'.1 - h.1) (h'.2.1 - h.2.1) (jv_A base)
/-- a table of calls that the machine can do -/
def jv_cal (G : jv_G) (X : Nat × (Nat → Int32)) (D : va_G) (base b : Nat) (cA : Nat → ClassId) (l : Launch) (call : Nat → List Value → jv_H → Option jv_R) : Prop :=
  ∀ mi as h r h', call mi as h = some (r, h') → jv_wf h → jg_mok G mi → h.1 ≤ h'.1 ∧ h.2.1 ≤ h'.2.1 ∧ jv_wf h' ∧ jv_Met G X D base b cA l mi as h r h'
/-! inversions -/
theorem jv_if {α : Type} {c : Prop} [Decidable c] {x : Option α} {y : α} (h : (if c then x else none) = some y) : c ∧ x = some y := by
  by_cases hc : c
  · rw [if_pos hc] at h; exact ⟨hc, h⟩
  · rw [if_neg hc] at h; cases h
theorem jv_go_inv {pc pc' : Nat} {L L' : jv_L} {S' : List Value} {h h' : jv_H} {o : Option (List Value)} (q : jv_go pc L h o = some (.inr (pc', L', S', h'))) : o = some S' ∧ pc' = pc ∧ L' = L ∧ h' = h := by
  cases o with
  | none => cases q
  | some S => cases q; exact ⟨rfl, rfl, rfl, rfl⟩
theorem jv_gol_inv {pc pc' : Nat} {L' : jv_L} {S' : List Value} {h h' : jv_H} {o : Option (jv_L × List Value)} (q : jv_gol pc h o = some (.inr (pc', L', S', h'))) : o = some (L', S') ∧ pc' = pc ∧ h' = h := by
  cases o with
  | none => cases q
  | some S => cases q; exact ⟨rfl, rfl, rfl⟩
theorem jv_goh_inv {pc pc' : Nat} {L L' : jv_L} {S S' : List Value} {h' : jv_H} {o : Option jv_H} (q : jv_goh pc L S o = some (.inr (pc', L', S', h'))) : o = some h' ∧ pc' = pc ∧ L' = L ∧ S' = S := by
  cases o with
  | none => cases q
  | some S => cases q; exact ⟨rfl, rfl, rfl, rfl⟩
theorem jv_bin_inv {f : Int32 → Int32 → Int32} {S S' : List Value} (q : jv_bin f S = some S') : ∃ x y r, S = .int y :: .int x :: r ∧ S' = .int (f x y) :: r := by
  unfold jv_bin at q
  split at q
  · cases q; exact ⟨_, _, _, rfl, rfl⟩
  · cases q
theorem jv_dv_inv {f : Int32 → Int32 → Int32} {S S' : List Value} (q : jv_dv f S = some S') : ∃ x y r, S = .int y :: .int x :: r ∧ S' = .int (f x y) :: r ∧ ¬ y = 0 := by
  unfold jv_dv at q
  split at q
  · split at q
    · cases q
    · cases q; exact ⟨_, _, _, rfl, rfl, by assumption⟩
  · cases q
theorem jv_pi_inv {L : jv_L} {S S' : List Value} {k : Nat} (q : jv_pi L S k = some S') : ∃ x, jv_ld L k = some (.int x) ∧ S' = .int x :: S := by
  unfold jv_pi at q
  split at q
  · cases q; exact ⟨_, by assumption, rfl⟩
  · cases q
theorem jv_pa_inv {L : jv_L} {S S' : List Value} {k : Nat} (q : jv_pa L S k = some S') : (jv_ld L k = some .null ∧ S' = .null :: S) ∨ ∃ a, jv_ld L k = some (.ref a) ∧ S' = .ref a :: S := by
  unfold jv_pa at q
  split at q
  · cases q; exact Or.inl ⟨by assumption, rfl⟩
  · cases q; exact Or.inr ⟨_, by assumption, rfl⟩
  · cases q
theorem jv_si_inv {L L' : jv_L} {S S' : List Value} {k : Nat} (q : jv_si L S k = some (L', S')) : ∃ x, S = .int x :: S' ∧ k < L.length ∧ L' = L.set k (some (.int x)) := by
  unfold jv_si at q
  split at q
  · obtain ⟨hk, q⟩ := jv_if q
    cases q; exact ⟨_, rfl, hk, rfl⟩
  · cases q
theorem jv_sa_inv {L L' : jv_L} {S S' : List Value} {k : Nat} (q : jv_sa L S k = some (L', S')) : k < L.length ∧ ((S = .null :: S' ∧ L' = L.set k (some .null)) ∨ ∃ a, S = .ref a :: S' ∧ L' = L.set k (some (.ref a))) := by
  unfold jv_sa at q
  split at q
  · obtain ⟨hk, q⟩ := jv_if q
    cases q; exact ⟨hk, Or.inl ⟨rfl, rfl⟩⟩
  · obtain ⟨hk, q⟩ := jv_if q
    cases q; exact ⟨hk, Or.inr ⟨_, rfl, rfl⟩⟩
  · cases q
theorem jv_ld_lt {L : jv_L} {k : Nat} {v : Value} (h : jv_ld L k = some v) : k < L.length := by
  unfold jv_ld at h
  by_cases hl : k < L.length
  · exact hl
  · rw [List.getElem?_eq_none (by omega)] at h
    cases h
theorem jv_jmp_inv {pc pc' : Nat} {off : Int} {L L' : jv_L} {S S' : List Value} {h h' : jv_H} (q : jv_jmp pc off L S h = some (.inr (pc', L', S', h'))) : (pc : Int) + off = (pc' : Int) ∧ L' = L ∧ S' = S ∧ h' = h := by
  unfold jv_jmp at q
  obtain ⟨h0, q⟩ := jv_if q
  cases q
  exact ⟨(Int.toNat_of_nonneg h0).symm, rfl, rfl, rfl⟩
theorem jv_br_inv {b : Bool} {pc pc' : Nat} {off : Int} {L L' : jv_L} {S S' : List Value} {h h' : jv_H} (q : jv_br b pc off L S h = some (.inr (pc', L', S', h'))) : ∃ tgt : Nat, (pc : Int) + off = (tgt : Int) ∧ pc' = (if b then tgt else pc + 3) ∧ L' = L ∧ S' = S ∧ h' = h := by
  unfold jv_br at q
  obtain ⟨h0, q⟩ := jv_if q
  cases q
  exact ⟨_, (Int.toNat_of_nonneg h0).symm, rfl, rfl, rfl, rfl⟩
theorem jv_get_inv {h : jv_H} {a ci k : Nat} {v : Value} (q : jv_get h a ci k = some v) : ∃ fs, h.2.2 a = .inr (ci, fs) ∧ fs[k]? = some v := by
  unfold jv_get at q
  split at q
  · replace q := jv_if q; obtain ⟨rfl, q⟩ := q
    exact ⟨_, by assumption, q⟩
  · cases q
theorem jv_put_inv {h h' : jv_H} {a ci k : Nat} {v : Value} (q : jv_put h a ci k v = some h') : ∃ fs, h.2.2 a = .inr (ci, fs) ∧ k < fs.length ∧ h' = (h.1, h.2.1, va_up h.2.2 a (.inr (ci, fs.set k v))) := by
  unfold jv_put at q
  split at q
  · replace q := jv_if q; obtain ⟨⟨rfl, hk⟩, q⟩ := q
    cases q
    exact ⟨_, by assumption, hk, rfl⟩
  · cases q
theorem jv_out_in {i : Int32} {n : Nat} (h : jv_out i n = false) : vp_in i n := by
  unfold jv_out at h
  exact of_decide_eq_false h
theorem jv_ald_inv {h : jv_H} {t a : Nat} {i x : Int32} (q : jv_ald h t a i = some x) : ∃ n f, h.2.2 a = .inl (t, n, .inl f) ∧ vp_in i n ∧ x = f i.toNatClampNeg := by
  unfold jv_ald at q
  split at q
  · replace q := jv_if q; obtain ⟨⟨rfl, hk⟩, q⟩ := q
    cases q
    exact ⟨_, _, by assumption, jv_out_in hk, rfl⟩
  · cases q
theorem jv_ast_inv {h h' : jv_H} {t a : Nat} {i x : Int32} (q : jv_ast h t a i x = some h') : ∃ n f, h.2.2 a = .inl (t, n, .inl f) ∧ vp_in i n ∧ h' = (h.1, h.2.1, va_up h.2.2 a (.inl (t, n, .inl (va_up f i.toNatClampNeg x)))) := by
  unfold jv_ast at q
  split at q
  · replace q := jv_if q; obtain ⟨⟨rfl, hk⟩, q⟩ := q
    cases q
    exact ⟨_, _, by assumption, jv_out_in hk, rfl⟩
  · cases q
theorem jv_rld_inv {G : jv_G} {h : jv_H} {a : Nat} {i : Int32} {v : Option Nat} (q : jv_rld G h a i = some v) : ∃ t n f, h.2.2 a = .inl (t, n, .inr f) ∧ vp_in i n ∧ 2 ≤ t ∧ t < (jg_tys G).length ∧ v = f i.toNatClampNeg := by
  unfold jv_rld at q
  split at q
  · obtain ⟨⟨hk, h1, h2⟩, q⟩ := jv_if q
    cases q
    exact ⟨_, _, _, by assumption, jv_out_in hk, h1, h2, rfl⟩
  · cases q
theorem jv_rst_inv {G : jv_G} {h h' : jv_H} {a : Nat} {i : Int32} {v : Option Nat} (q : jv_rst G h a i v = some h') : ∃ t n f w, h.2.2 a = .inl (t, n, .inr f) ∧ vp_in i n ∧ 2 ≤ t ∧ (jg_tys G)[t]? = some w ∧ jv_isC h w.2 v = true ∧ h' = (h.1, h.2.1, va_up h.2.2 a (.inl (t, n, .inr (va_up f i.toNatClampNeg v)))) := by
  unfold jv_rst at q
  split at q
  · obtain ⟨⟨hk, h2, hw⟩, q⟩ := jv_if q
    cases q
    split at hw
    · exact ⟨_, _, _, _, by assumption, jv_out_in hk, h2, by assumption, hw, rfl⟩
    · cases hw
  · cases q
theorem jv_isC_inv {h : jv_H} {ci a : Nat} (q : jv_isC h ci (some a) = true) : ∃ fs, h.2.2 a = .inr (ci, fs) := by
  unfold jv_isC at q
  simp only at q
  split at q
  · have := of_decide_eq_true q
    subst this
    exact ⟨_, by assumption⟩
  · cases q
/-- a cell that isn't the empty one is made -/
theorem jv_place {h : jv_H} (hw : jv_wf h) {a : Nat} {x : jv_C} (hx : h.2.2 a = x) (hn : x ≠ jv_no) : ∃ k, a = k + 1 ∧ k < h.1 := by
  cases a with
  | zero => exact absurd (hx.symm.trans (hw 0 (Or.inl rfl))) hn
  | succ k =>
    by_cases hk : k < h.1
    · exact ⟨k, rfl, hk⟩
    · exact absurd (hx.symm.trans (hw (k + 1) (Or.inr (by omega)))) hn
theorem jv_wf_put {h : jv_H} (hw : jv_wf h) {k : Nat} (hk : k < h.1) (x : jv_C) (w : Nat) : jv_wf (h.1, w, va_up h.2.2 (k + 1) x) := by
  intro a ha
  have : ¬ a = k + 1 := by
    rcases ha with ha | ha
    · omega
    · have : h.1 < a := ha
      omega
  show va_up h.2.2 (k + 1) x a = jv_no
  simp only [va_up, if_neg this]
  exact hw a ha
theorem jv_wf_push {h : jv_H} (hw : jv_wf h) (x : jv_C) (w : Nat) : jv_wf (h.1 + 1, w, va_up h.2.2 (h.1 + 1) x) := by
  intro a ha
  have hn : ¬ a = h.1 + 1 := by
    rcases ha with ha | ha
    · omega
    · have : h.1 + 1 < a := ha
      omega
  show va_up h.2.2 (h.1 + 1) x a = jv_no
  simp only [va_up, if_neg hn]
  refine hw a ?_
  rcases ha with ha | ha
  · exact Or.inl ha
  · have : h.1 + 1 < a := ha
    exact Or.inr (by omega)
end
section
/-! ===== one step: sizes, and soundness ===== -/
def jv_mcal (G : jv_G) (call : Nat → List Value → jv_H → Option jv_R) : Prop := ∀ mi as h r h', call mi as h = some (r, h') → jv_wf h → jg_mok G mi → h.1 ≤ h'.1 ∧ h.2.1 ≤ h'.2.1 ∧ jv_wf h'
def jv_grow (h h' : jv_H) : Prop := h.1 ≤ h'.1 ∧ h.2.1 ≤ h'.2.1 ∧ jv_wf h'
theorem jv_grow_rfl {h : jv_H} (hw : jv_wf h) : jv_grow h h := ⟨Nat.le_refl _, Nat.le_refl _, hw⟩
theorem jv_put_grow {h h' : jv_H} {a ci k : Nat} {v : Value} (hw : jv_wf h) (q : jv_put h a ci k v = some h') : jv_grow h h' := by
  obtain ⟨fs, h1, h2, rfl⟩ := jv_put_inv q
  have hn : jv_C := .inr (ci, fs)
  obtain ⟨k', rfl, hk⟩ := jv_place hw h1 (by intro z; simp only [jv_no, Sum.inr.injEq, Prod.mk.injEq] at z; rw [z.2] at h2; simp at h2)
  exact ⟨Nat.le_refl _, Nat.le_refl _, jv_wf_put hw hk _ _⟩
theorem jv_ast_grow {h h' : jv_H} {t a : Nat} {i x : Int32} (hw : jv_wf h) (q : jv_ast h t a i x = some h') : jv_grow h h' := by
  obtain ⟨n, f, h1, h2, rfl⟩ := jv_ast_inv q
  obtain ⟨k', rfl, hk⟩ := jv_place hw h1 (by intro z; cases z)
  exact ⟨Nat.le_refl _, Nat.le_refl _, jv_wf_put hw hk _ _⟩
theorem jv_rst_grow {G : jv_G} {h h' : jv_H} {a : Nat} {i : Int32} {v : Option Nat} (hw : jv_wf h) (q : jv_rst G h a i v = some h') : jv_grow h h' := by
  obtain ⟨t, n, f, w, h1, h2, h3, h4, h5, rfl⟩ := jv_rst_inv q
  obtain ⟨k', rfl, hk⟩ := jv_place hw h1 (by intro z; cases z)
  exact ⟨Nat.le_refl _, Nat.le_refl _, jv_wf_put hw hk _ _⟩
theorem jv_newo_inv {G : jv_G} {h h' : jv_H} {ci : Nat} (q : jv_newo G h ci = some h') : ∃ w, (jg_cls G)[ci]? = some w ∧ h' = (h.1 + 1, h.2.1 + w.1.2.2, va_up h.2.2 (h.1 + 1) (.inr (ci, (List.range w.1.2.2).map (fun k => jv_def (w.2 k))))) := by
  unfold jv_newo at q
  split at q
  · cases q; exact ⟨_, by assumption, rfl⟩
  · cases q
theorem jv_newi_inv {h h' : jv_H} {t : Nat} {n : Int32} (q : jv_newi h t n = some h') : ¬ n < 0 ∧ n.toNatClampNeg ≤ 1000 ∧ h' = (h.1 + 1, h.2.1 + n.toNatClampNeg, va_up h.2.2 (h.1 + 1) (.inl (t, n.toNatClampNeg, .inl (fun _ => 0)))) := by
  unfold jv_newi at q
  split at q
  · cases q
  · rename_i hc
    cases q
    exact ⟨fun z => hc (Or.inl z), Nat.not_lt.mp (fun z => hc (Or.inr z)), rfl⟩
theorem jv_newr_inv {h h' : jv_H} {t : Nat} {n : Int32} (q : jv_newr h t n = some h') : ¬ n < 0 ∧ n.toNatClampNeg ≤ 1000 ∧ h' = (h.1 + 1, h.2.1 + n.toNatClampNeg, va_up h.2.2 (h.1 + 1) (.inl (t, n.toNatClampNeg, .inr (fun _ => none)))) := by
  unfold jv_newr at q
  split at q
  · cases q
  · rename_i hc
    cases q
    exact ⟨fun z => hc (Or.inl z), Nat.not_lt.mp (fun z => hc (Or.inr z)), rfl⟩
theorem jv_done_inv {pc pc' : Nat} {L L' : jv_L} {rest S' : List Value} {h' : jv_H} {o : Option jv_R} (q : jv_done pc L rest o = some (.inr (pc', L', S', h'))) : ∃ r, o = some (r, h') ∧ pc' = pc + 3 ∧ L' = L ∧ S' = r.toList ++ rest := by
  cases o with
  | none => cases q
  | some w => cases q; exact ⟨_, rfl, rfl, rfl, rfl⟩
theorem jv_cV_inv {G : jv_G} {call : Nat → List Value → jv_H → Option jv_R} {pc pc' : Nat} {L L' : jv_L} {S S' : List Value} {h h' : jv_H} {y n : Nat} (q : jv_cV G call pc L S h y n = some (.inr (pc', L', S', h'))) : ∃ a rest r, S.drop n = .ref a :: rest ∧ jv_cats rest ≤ 8 ∧ jv_isC h (jg_mc G y) (some a) = true ∧ call y (.ref a :: (S.take n).reverse) h = some (r, h') ∧ pc' = pc + 3 ∧ L' = L ∧ S' = r.toList ++ rest := by
  unfold jv_cV at q
  split at q
  · obtain ⟨⟨h1, h2⟩, q⟩ := jv_if q
    obtain ⟨r, h3, h4, h5, h6⟩ := jv_done_inv q
    exact ⟨_, _, r, by assumption, h1, h2, h3, h4, h5, h6⟩
  · cases q
theorem jv_cI_inv {call : Nat → List Value → jv_H → Option jv_R} {pc pc' : Nat} {L L' : jv_L} {S S' : List Value} {h h' : jv_H} {y n : Nat} (q : jv_cI call pc L S h y n = some (.inr (pc', L', S', h'))) : ∃ a rest r, S.drop n = .ref a :: rest ∧ jv_cats rest ≤ 8 ∧ call y (.ref a :: (S.take n).reverse) h = some (r, h') ∧ pc' = pc + 3 ∧ L' = L ∧ S' = r.toList ++ rest := by
  unfold jv_cI at q
  split at q
  · obtain ⟨h1, q⟩ := jv_if q
    obtain ⟨r, h3, h4, h5, h6⟩ := jv_done_inv q
    exact ⟨_, _, r, by assumption, h1, h3, h4, h5, h6⟩
  · cases q
theorem jv_cS_inv {call : Nat → List Value → jv_H → Option jv_R} {pc pc' : Nat} {L L' : jv_L} {S S' : List Value} {h h' : jv_H} {y n : Nat} (q : jv_cS call pc L S h y n = some (.inr (pc', L', S', h'))) : ∃ r, n ≤ S.length ∧ jv_cats (S.drop n) ≤ 8 ∧ call y (S.take n).reverse h = some (r, h') ∧ pc' = pc + 3 ∧ L' = L ∧ S' = r.toList ++ S.drop n := by
  unfold jv_cS at q
  obtain ⟨⟨h1, h2⟩, q⟩ := jv_if q
  obtain ⟨r, h3, h4, h5, h6⟩ := jv_done_inv q
  exact ⟨r, h1, h2, h3, h4, h5, h6⟩
theorem jv_c0_inv {pc pc' : Nat} {L L' : jv_L} {S S' : List Value} {h h' : jv_H} (q : jv_c0 pc L S h = some (.inr (pc', L', S', h'))) : ∃ a, S = .ref a :: S' ∧ jv_cats S' ≤ 8 ∧ pc' = pc + 3 ∧ L' = L ∧ h' = h := by
  unfold jv_c0 at q
  split at q
  · obtain ⟨h1, q⟩ := jv_if q
    cases q
    exact ⟨_, rfl, h1, rfl, rfl, rfl⟩
  · cases q
theorem jv_sPut_inv {G : jv_G} {mi pc pc' : Nat} {L L' : jv_L} {S S' : List Value} {h h' : jv_H} {w : Option (Nat × Nat)} (q : jv_sPut G mi pc L h w S = some (.inr (pc', L', S', h'))) : ∃ ci k v a, w = some (ci, k) ∧ S = v :: .ref a :: S' ∧ jv_fty G mi ci k v = true ∧ jv_put h a ci k v = some h' ∧ pc' = pc + 3 ∧ L' = L := by
  unfold jv_sPut at q
  split at q
  · obtain ⟨h1, q⟩ := jv_if q
    obtain ⟨h2, rfl, rfl, rfl⟩ := jv_goh_inv q
    exact ⟨_, _, _, _, rfl, rfl, h1, h2, rfl, rfl⟩
  · cases q
theorem jv_sGet_inv {G : jv_G} {S S' : List Value} {h : jv_H} {w : Option (Nat × Nat)} (q : jv_sGet G h w S = some S') : ∃ ci k a r v, w = some (ci, k) ∧ S = .ref a :: r ∧ jv_get h a ci k = some v ∧ S' = v :: r := by
  unfold jv_sGet at q
  split at q
  · split at q
    · cases q; exact ⟨_, _, _, _, _, rfl, rfl, by assumption, rfl⟩
    · cases q
  · cases q
theorem jv_sIast_inv {pc pc' : Nat} {L L' : jv_L} {S S' : List Value} {h h' : jv_H} (q : jv_sIast pc L h S = some (.inr (pc', L', S', h'))) : ∃ x i a, S = .int x :: .int i :: .ref a :: S' ∧ jv_ast h 0 a i x = some h' ∧ pc' = pc + 1 ∧ L' = L := by
  unfold jv_sIast at q
  split at q
  · obtain ⟨h2, rfl, rfl, rfl⟩ := jv_goh_inv q
    exact ⟨_, _, _, rfl, h2, rfl, rfl⟩
  · cases q
theorem jv_sBast_inv {pc pc' : Nat} {L L' : jv_L} {S S' : List Value} {h h' : jv_H} (q : jv_sBast pc L h S = some (.inr (pc', L', S', h'))) : ∃ x i a, S = .int x :: .int i :: .ref a :: S' ∧ (x = 0 ∨ x = 1) ∧ jv_ast h 1 a i x = some h' ∧ pc' = pc + 1 ∧ L' = L := by
  unfold jv_sBast at q
  split at q
  · obtain ⟨h1, q⟩ := jv_if q
    obtain ⟨h2, rfl, rfl, rfl⟩ := jv_goh_inv q
    exact ⟨_, _, _, rfl, h1, h2, rfl, rfl⟩
  · cases q
theorem jv_sAast_inv {G : jv_G} {pc pc' : Nat} {L L' : jv_L} {S S' : List Value} {h h' : jv_H} (q : jv_sAast G pc L h S = some (.inr (pc', L', S', h'))) : ∃ (v : Option Nat) (i : Int32) (a : Nat), S = va_rf v :: .int i :: .ref a :: S' ∧ jv_rst G h a i v = some h' ∧ pc' = pc + 1 ∧ L' = L := by
  unfold jv_sAast at q
  split at q
  · obtain ⟨h2, rfl, rfl, rfl⟩ := jv_goh_inv q
    exact ⟨none, _, _, rfl, h2, rfl, rfl⟩
  · obtain ⟨h2, rfl, rfl, rfl⟩ := jv_goh_inv q
    exact ⟨some _, _, _, rfl, h2, rfl, rfl⟩
  · cases q
theorem jv_sNewi_inv {pc pc' t : Nat} {L L' : jv_L} {S S' : List Value} {h h' : jv_H} (q : jv_sNewi pc L h t S = some (.inr (pc', L', S', h'))) : ∃ n r, S = .int n :: r ∧ S' = .ref (h.1 + 1) :: r ∧ jv_newi h t n = some h' ∧ pc' = pc + 2 ∧ L' = L := by
  unfold jv_sNewi at q
  split at q
  · obtain ⟨h2, rfl, rfl, rfl⟩ := jv_goh_inv q
    exact ⟨_, _, rfl, rfl, h2, rfl, rfl⟩
  · cases q
theorem jv_sNewr_inv {pc pc' : Nat} {t : Option Nat} {L L' : jv_L} {S S' : List Value} {h h' : jv_H} (q : jv_sNewr pc L h t S = some (.inr (pc', L', S', h'))) : ∃ t' n r, t = some t' ∧ S = .int n :: r ∧ S' = .ref (h.1 + 1) :: r ∧ jv_newr h t' n = some h' ∧ pc' = pc + 3 ∧ L' = L := by
  unfold jv_sNewr at q
  split at q
  · obtain ⟨h2, rfl, rfl, rfl⟩ := jv_goh_inv q
    exact ⟨_, _, _, rfl, rfl, rfl, h2, rfl, rfl⟩
  · cases q
theorem jv_sNew_inv {G : jv_G} {pc pc' : Nat} {t : Option Nat} {L L' : jv_L} {S S' : List Value} {h h' : jv_H} (q : jv_sNew G pc L h t S = some (.inr (pc', L', S', h'))) : ∃ ci, t = some ci ∧ S' = .ref (h.1 + 1) :: S ∧ jv_newo G h ci = some h' ∧ pc' = pc + 3 ∧ L' = L := by
  unfold jv_sNew at q
  split at q
  · obtain ⟨h2, rfl, rfl, rfl⟩ := jv_goh_inv q
    exact ⟨_, rfl, rfl, h2, rfl, rfl⟩
  · cases q
theorem jv_sIf_inv {c : Jvm.ClassFile.Cond} {pc pc' : Nat} {off : Int} {L L' : jv_L} {S S' : List Value} {h h' : jv_H} (q : jv_sIf c pc off L S h = some (.inr (pc', L', S', h'))) : ∃ (x : Int32) (tgt : Nat), S = .int x :: S' ∧ (pc : Int) + off = (tgt : Int) ∧ pc' = (if jv_c2 c x 0 then tgt else pc + 3) ∧ L' = L ∧ h' = h := by
  unfold jv_sIf at q
  split at q
  · obtain ⟨tgt, h1, h2, rfl, rfl, rfl⟩ := jv_br_inv q
    exact ⟨_, tgt, rfl, h1, h2, rfl, rfl⟩
  · cases q
theorem jv_sIcmp_inv {c : Jvm.ClassFile.Cond} {pc pc' : Nat} {off : Int} {L L' : jv_L} {S S' : List Value} {h h' : jv_H} (q : jv_sIcmp c pc off L S h = some (.inr (pc', L', S', h'))) : ∃ (x y : Int32) (tgt : Nat), S = .int y :: .int x :: S' ∧ (pc : Int) + off = (tgt : Int) ∧ pc' = (if jv_c2 c x y then tgt else pc + 3) ∧ L' = L ∧ h' = h := by
  unfold jv_sIcmp at q
  split at q
  · obtain ⟨tgt, h1, h2, rfl, rfl, rfl⟩ := jv_br_inv q
    exact ⟨_, _, tgt, rfl, h1, h2, rfl, rfl⟩
  · cases q
theorem jv_sNull_inv {pc pc' : Nat} {off : Int} {L L' : jv_L} {S S' : List Value} {h h' : jv_H} (q : jv_sNull pc off L S h = some (.inr (pc', L', S', h'))) : ∃ (v : Option Nat) (tgt : Nat), S = va_rf v :: S' ∧ (pc : Int) + off = (tgt : Int) ∧ pc' = (match v with | none => tgt | some _ => pc + 3) ∧ L' = L ∧ h' = h := by
  unfold jv_sNull at q
  split at q
  · obtain ⟨tgt, h1, h2, rfl, rfl, rfl⟩ := jv_br_inv q
    exact ⟨none, tgt, rfl, h1, h2, rfl, rfl⟩
  · obtain ⟨tgt, h1, h2, rfl, rfl, rfl⟩ := jv_br_inv q
    exact ⟨some _, tgt, rfl, h1, h2, rfl, rfl⟩
  · cases q
theorem jv_sNonn_inv {pc pc' : Nat} {off : Int} {L L' : jv_L} {S S' : List Value} {h h' : jv_H} (q : jv_sNonn pc off L S h = some (.inr (pc', L', S', h'))) : ∃ (v : Option Nat) (tgt : Nat), S = va_rf v :: S' ∧ (pc : Int) + off = (tgt : Int) ∧ pc' = (match v with | none => pc + 3 | some _ => tgt) ∧ L' = L ∧ h' = h := by
  unfold jv_sNonn at q
  split at q
  · obtain ⟨tgt, h1, h2, rfl, rfl, rfl⟩ := jv_br_inv q
    exact ⟨none, tgt, rfl, h1, h2, rfl, rfl⟩
  · obtain ⟨tgt, h1, h2, rfl, rfl, rfl⟩ := jv_br_inv q
    exact ⟨some _, tgt, rfl, h1, h2, rfl, rfl⟩
  · cases q
theorem jv_rv_inv {v : Value} {x : Option Nat} (q : jv_rv v = some x) : v = va_rf x := by
  unfold jv_rv at q
  split at q
  · cases q; rfl
  · cases q; rfl
  · cases q
theorem jv_sAcmp_inv {c : Jvm.ClassFile.ACond} {pc pc' : Nat} {off : Int} {L L' : jv_L} {S S' : List Value} {h h' : jv_H} (q : jv_sAcmp c pc off L S h = some (.inr (pc', L', S', h'))) : ∃ (x y : Option Nat) (tgt : Nat), S = va_rf y :: va_rf x :: S' ∧ (pc : Int) + off = (tgt : Int) ∧ pc' = (if (match c with | .eq => decide (x = y) | .ne => decide (¬ x = y)) then tgt else pc + 3) ∧ L' = L ∧ h' = h := by
  unfold jv_sAcmp at q
  split at q
  · split at q
    · rename_i x y hx hy
      obtain ⟨tgt, h1, h2, rfl, rfl, rfl⟩ := jv_br_inv q
      rw [jv_rv_inv hx, jv_rv_inv hy]
      exact ⟨_, _, tgt, rfl, h1, h2, rfl, rfl⟩
    · cases q
  · cases q
theorem jv_sTab_inv {dflt lo hi : Int} {offs : Array Int} {pc pc' : Nat} {L L' : jv_L} {S S' : List Value} {h h' : jv_H} (q : jv_sTab dflt lo hi offs pc L S h = some (.inr (pc', L', S', h'))) : ∃ x, S = .int x :: S' ∧ L' = L ∧ h' = h ∧ (((x.toInt < lo ∨ hi < x.toInt) ∧ (pc : Int) + dflt = (pc' : Int)) ∨ (¬ (x.toInt < lo ∨ hi < x.toInt) ∧ ∃ off, offs[(x.toInt - lo).toNat]? = some off ∧ (pc : Int) + off = (pc' : Int))) := by
  unfold jv_sTab at q
  split at q
  · split at q
    · obtain ⟨h1, rfl, rfl, rfl⟩ := jv_jmp_inv q
      exact ⟨_, rfl, rfl, rfl, Or.inl ⟨by assumption, h1⟩⟩
    · split at q
      · obtain ⟨h1, rfl, rfl, rfl⟩ := jv_jmp_inv q
        exact ⟨_, rfl, rfl, rfl, Or.inr ⟨by assumption, _, by assumption, h1⟩⟩
      · cases q
  · cases q
theorem jv_sLook_inv {dflt : Int} {ps : Array (Int × Int)} {pc pc' : Nat} {L L' : jv_L} {S S' : List Value} {h h' : jv_H} (q : jv_sLook dflt ps pc L S h = some (.inr (pc', L', S', h'))) : ∃ x, S = .int x :: S' ∧ L' = L ∧ h' = h ∧ (ps.toList.zip (ps.toList.drop 1)).all (fun (a, next) => a.1 < next.1) = true ∧ (pc : Int) + Op.lookupswitch.offset ps.toList dflt x.toInt = (pc' : Int) := by
  unfold jv_sLook at q
  split at q
  · obtain ⟨h0, q⟩ := jv_if q
    obtain ⟨h1, rfl, rfl, rfl⟩ := jv_jmp_inv q
    exact ⟨_, rfl, rfl, rfl, h0, h1⟩
  · cases q

theorem jv_neg_inv {S S' : List Value} (q : jv_neg S = some S') : ∃ x r, S = .int x :: r ∧ S' = .int (-x) :: r := by
  unfold jv_neg at q
  split at q
  · cases q; exact ⟨_, _, rfl, rfl⟩
  · cases q
theorem jv_i2l_inv {S S' : List Value} (q : jv_i2l S = some S') : ∃ x r, S = .int x :: r ∧ S' = .long x.toInt64 :: r := by
  unfold jv_i2l at q
  split at q
  · cases q; exact ⟨_, _, rfl, rfl⟩
  · cases q
theorem jv_lcmp_inv {S S' : List Value} (q : jv_lcmp S = some S') : ∃ x y r, S = .long y :: .long x :: r ∧ S' = .int (lg_cmp x y) :: r := by
  unfold jv_lcmp at q
  split at q
  · cases q; exact ⟨_, _, _, rfl, rfl⟩
  · cases q
theorem jv_dup_inv {S S' : List Value} (q : jv_dup S = some S') : ∃ v r, S = v :: r ∧ S' = v :: v :: r ∧ v.category = 1 := by
  unfold jv_dup at q
  split at q
  · obtain ⟨h1, q⟩ := jv_if q
    cases q; exact ⟨_, _, rfl, rfl, of_decide_eq_true h1⟩
  · cases q
theorem jv_pop_inv {S S' : List Value} (q : jv_pop S = some S') : ∃ v, S = v :: S' ∧ v.category = 1 := by
  unfold jv_pop at q
  split at q
  · obtain ⟨h1, q⟩ := jv_if q
    cases q; exact ⟨_, rfl, of_decide_eq_true h1⟩
  · cases q
theorem jv_dupx1_inv {S S' : List Value} (q : jv_dupx1 S = some S') : ∃ v w r, S = v :: w :: r ∧ S' = v :: w :: v :: r ∧ v.category = 1 ∧ w.category = 1 := by
  unfold jv_dupx1 at q
  split at q
  · obtain ⟨h1, q⟩ := jv_if q
    cases q
    rw [Bool.and_eq_true] at h1
    exact ⟨_, _, _, rfl, rfl, of_decide_eq_true h1.1, of_decide_eq_true h1.2⟩
  · cases q
theorem jv_dupx2_inv {S S' : List Value} (q : jv_dupx2 S = some S') : ∃ v w u r, S = v :: w :: u :: r ∧ S' = v :: w :: u :: v :: r ∧ v.category = 1 ∧ w.category = 1 ∧ u.category = 1 := by
  unfold jv_dupx2 at q
  split at q
  · obtain ⟨h1, q⟩ := jv_if q
    cases q
    rw [Bool.and_eq_true, Bool.and_eq_true] at h1
    exact ⟨_, _, _, _, rfl, rfl, of_decide_eq_true h1.1.1, of_decide_eq_true h1.1.2, of_decide_eq_true h1.2⟩
  · cases q
theorem jv_dup2_inv {S S' : List Value} (q : jv_dup2 S = some S') : ∃ v w r, S = v :: w :: r ∧ S' = v :: w :: v :: w :: r ∧ v.category = 1 ∧ w.category = 1 := by
  unfold jv_dup2 at q
  split at q
  · obtain ⟨h1, q⟩ := jv_if q
    cases q
    rw [Bool.and_eq_true] at h1
    exact ⟨_, _, _, rfl, rfl, of_decide_eq_true h1.1, of_decide_eq_true h1.2⟩
  · cases q
theorem jv_alen_inv {G : jv_G} {X : Nat × (Nat → Int32)} {h : jv_H} {S S' : List Value} (q : jv_alen G X h S = some S') : ∃ a r v, S = .ref a :: r ∧ S' = .int v :: r ∧ jv_len G X h a = some v := by
  unfold jv_alen at q
  split at q
  · split at q
    · cases q; exact ⟨_, _, _, rfl, rfl, by assumption⟩
    · cases q
  · cases q
theorem jv_sIalo_inv {X : Nat × (Nat → Int32)} {h : jv_H} {S S' : List Value} (q : jv_sIalo X h S = some S') : ∃ i r, (S = .int i :: .ref 0 :: r ∧ vp_in i X.1 ∧ S' = .int (X.2 i.toNatClampNeg) :: r) ∨ ∃ a x, S = .int i :: .ref (a + 1) :: r ∧ jv_ald h 0 (a + 1) i = some x ∧ S' = .int x :: r := by
  unfold jv_sIalo at q
  split at q
  · obtain ⟨h1, q⟩ := jv_if q
    cases q; exact ⟨_, _, Or.inl ⟨rfl, jv_out_in h1, rfl⟩⟩
  · split at q
    · cases q; exact ⟨_, _, Or.inr ⟨_, _, rfl, by assumption, rfl⟩⟩
    · cases q
  · cases q
theorem jv_sBalo_inv {h : jv_H} {S S' : List Value} (q : jv_sBalo h S = some S') : ∃ i r a x, S = .int i :: .ref a :: r ∧ jv_ald h 1 a i = some x ∧ S' = .int x :: r := by
  unfold jv_sBalo at q
  split at q
  · split at q
    · cases q; exact ⟨_, _, _, _, rfl, by assumption, rfl⟩
    · cases q
  · cases q
theorem jv_sAalo_inv {G : jv_G} {h : jv_H} {S S' : List Value} (q : jv_sAalo G h S = some S') : ∃ i r a x, S = .int i :: .ref a :: r ∧ jv_rld G h a i = some x ∧ S' = va_rf x :: r := by
  unfold jv_sAalo at q
  split at q
  · split at q
    · cases q; exact ⟨_, _, _, _, rfl, by assumption, rfl⟩
    · cases q
  · cases q
set_option maxHeartbeats 4000000 in
theorem jv_mono {G : jv_G} (hG : jg_ok G) {X : Nat × (Nat → Int32)} {call : Nat → List Value → jv_H → Option jv_R} (hcal : jv_mcal G call) {mi pc pc' : Nat} {L L' : jv_L} {S S' : List Value} {h h' : jv_H} (hw : jv_wf h) (q : jv_one G X call mi (pc, L, S, h) = some (.inr (pc', L', S', h'))) : jv_grow h h' := by
  unfold jv_one at q
  split at q
  case h_2 => cases q
  case h_1 w hd =>
    obtain ⟨ins, len⟩ := w
    dsimp only at q
    unfold jv_ins at q
    cases ins with
    | iconst n =>
      try dsimp only at q
      obtain ⟨-, q⟩ := jv_if q
      cases q
      exact jv_grow_rfl hw
    | bipush n =>
      try dsimp only at q
      obtain ⟨-, q⟩ := jv_if q
      cases q
      exact jv_grow_rfl hw
    | sipush n =>
      try dsimp only at q
      obtain ⟨-, q⟩ := jv_if q
      cases q
      exact jv_grow_rfl hw
    | aconst_null  =>
      try dsimp only at q
      obtain ⟨-, q⟩ := jv_if q
      cases q
      exact jv_grow_rfl hw
    | ldc i =>
      try dsimp only at q
      obtain ⟨-, q⟩ := jv_if q
      obtain ⟨-, -, -, rfl⟩ := jv_go_inv q
      exact jv_grow_rfl hw
    | ldc_w i =>
      try dsimp only at q
      obtain ⟨-, q⟩ := jv_if q
      obtain ⟨-, -, -, rfl⟩ := jv_go_inv q
      exact jv_grow_rfl hw
    | ldc2_w i =>
      try dsimp only at q
      obtain ⟨-, q⟩ := jv_if q
      obtain ⟨-, -, -, rfl⟩ := jv_go_inv q
      exact jv_grow_rfl hw
    | iload_n i =>
      try dsimp only at q
      obtain ⟨-, q⟩ := jv_if q
      obtain ⟨-, -, -, rfl⟩ := jv_go_inv q
      exact jv_grow_rfl hw
    | iload i =>
      try dsimp only at q
      obtain ⟨-, q⟩ := jv_if q
      obtain ⟨-, -, -, rfl⟩ := jv_go_inv q
      exact jv_grow_rfl hw
    | aload_n i =>
      try dsimp only at q
      obtain ⟨-, q⟩ := jv_if q
      obtain ⟨-, -, -, rfl⟩ := jv_go_inv q
      exact jv_grow_rfl hw
    | aload i =>
      try dsimp only at q
      obtain ⟨-, q⟩ := jv_if q
      obtain ⟨-, -, -, rfl⟩ := jv_go_inv q
      exact jv_grow_rfl hw
    | iadd  =>
      try dsimp only at q
      obtain ⟨-, q⟩ := jv_if q
      obtain ⟨-, -, -, rfl⟩ := jv_go_inv q
      exact jv_grow_rfl hw
    | isub  =>
      try dsimp only at q
      obtain ⟨-, q⟩ := jv_if q
      obtain ⟨-, -, -, rfl⟩ := jv_go_inv q
      exact jv_grow_rfl hw
    | imul  =>
      try dsimp only at q
      obtain ⟨-, q⟩ := jv_if q
      obtain ⟨-, -, -, rfl⟩ := jv_go_inv q
      exact jv_grow_rfl hw
    | iand  =>
      try dsimp only at q
      obtain ⟨-, q⟩ := jv_if q
      obtain ⟨-, -, -, rfl⟩ := jv_go_inv q
      exact jv_grow_rfl hw
    | ior  =>
      try dsimp only at q
      obtain ⟨-, q⟩ := jv_if q
      obtain ⟨-, -, -, rfl⟩ := jv_go_inv q
      exact jv_grow_rfl hw
    | ishl  =>
      try dsimp only at q
      obtain ⟨-, q⟩ := jv_if q
      obtain ⟨-, -, -, rfl⟩ := jv_go_inv q
      exact jv_grow_rfl hw
    | ishr  =>
      try dsimp only at q
      obtain ⟨-, q⟩ := jv_if q
      obtain ⟨-, -, -, rfl⟩ := jv_go_inv q
      exact jv_grow_rfl hw
    | iushr  =>
      try dsimp only at q
      obtain ⟨-, q⟩ := jv_if q
      obtain ⟨-, -, -, rfl⟩ := jv_go_inv q
      exact jv_grow_rfl hw
    | idiv  =>
      try dsimp only at q
      obtain ⟨-, q⟩ := jv_if q
      obtain ⟨-, -, -, rfl⟩ := jv_go_inv q
      exact jv_grow_rfl hw
    | irem  =>
      try dsimp only at q
      obtain ⟨-, q⟩ := jv_if q
      obtain ⟨-, -, -, rfl⟩ := jv_go_inv q
      exact jv_grow_rfl hw
    | ineg  =>
      try dsimp only at q
      obtain ⟨-, q⟩ := jv_if q
      obtain ⟨-, -, -, rfl⟩ := jv_go_inv q
      exact jv_grow_rfl hw
    | i2l  =>
      try dsimp only at q
      obtain ⟨-, q⟩ := jv_if q
      obtain ⟨-, -, -, rfl⟩ := jv_go_inv q
      exact jv_grow_rfl hw
    | lcmp  =>
      try dsimp only at q
      obtain ⟨-, q⟩ := jv_if q
      obtain ⟨-, -, -, rfl⟩ := jv_go_inv q
      exact jv_grow_rfl hw
    | dup  =>
      try dsimp only at q
      obtain ⟨-, q⟩ := jv_if q
      obtain ⟨-, -, -, rfl⟩ := jv_go_inv q
      exact jv_grow_rfl hw
    | pop  =>
      try dsimp only at q
      obtain ⟨-, q⟩ := jv_if q
      obtain ⟨-, -, -, rfl⟩ := jv_go_inv q
      exact jv_grow_rfl hw
    | dup_x1  =>
      try dsimp only at q
      obtain ⟨-, q⟩ := jv_if q
      obtain ⟨-, -, -, rfl⟩ := jv_go_inv q
      exact jv_grow_rfl hw
    | dup_x2  =>
      try dsimp only at q
      obtain ⟨-, q⟩ := jv_if q
      obtain ⟨-, -, -, rfl⟩ := jv_go_inv q
      exact jv_grow_rfl hw
    | dup2  =>
      try dsimp only at q
      obtain ⟨-, q⟩ := jv_if q
      obtain ⟨-, -, -, rfl⟩ := jv_go_inv q
      exact jv_grow_rfl hw
    | getfield i =>
      try dsimp only at q
      obtain ⟨-, q⟩ := jv_if q
      obtain ⟨-, -, -, rfl⟩ := jv_go_inv q
      exact jv_grow_rfl hw
    | arraylength  =>
      try dsimp only at q
      obtain ⟨-, q⟩ := jv_if q
      obtain ⟨-, -, -, rfl⟩ := jv_go_inv q
      exact jv_grow_rfl hw
    | iaload  =>
      try dsimp only at q
      obtain ⟨-, q⟩ := jv_if q
      obtain ⟨-, -, -, rfl⟩ := jv_go_inv q
      exact jv_grow_rfl hw
    | baload  =>
      try dsimp only at q
      obtain ⟨-, q⟩ := jv_if q
      obtain ⟨-, -, -, rfl⟩ := jv_go_inv q
      exact jv_grow_rfl hw
    | aaload  =>
      try dsimp only at q
      obtain ⟨-, q⟩ := jv_if q
      obtain ⟨-, -, -, rfl⟩ := jv_go_inv q
      exact jv_grow_rfl hw
    | istore_n i =>
      try dsimp only at q
      obtain ⟨-, q⟩ := jv_if q
      obtain ⟨-, -, rfl⟩ := jv_gol_inv q
      exact jv_grow_rfl hw
    | istore i =>
      try dsimp only at q
      obtain ⟨-, q⟩ := jv_if q
      obtain ⟨-, -, rfl⟩ := jv_gol_inv q
      exact jv_grow_rfl hw
    | astore_n i =>
      try dsimp only at q
      obtain ⟨-, q⟩ := jv_if q
      obtain ⟨-, -, rfl⟩ := jv_gol_inv q
      exact jv_grow_rfl hw
    | astore i =>
      try dsimp only at q
      obtain ⟨-, q⟩ := jv_if q
      obtain ⟨-, -, rfl⟩ := jv_gol_inv q
      exact jv_grow_rfl hw
    | iinc i n =>
      try dsimp only at q
      obtain ⟨-, q⟩ := jv_if q
      split at q
      · cases q; exact jv_grow_rfl hw
      · cases q
    | ifCond cd off =>
      try dsimp only at q
      obtain ⟨-, q⟩ := jv_if q
      obtain ⟨_, _, -, -, -, -, rfl⟩ := jv_sIf_inv q
      exact jv_grow_rfl hw
    | if_icmp cd off =>
      try dsimp only at q
      obtain ⟨-, q⟩ := jv_if q
      obtain ⟨_, _, _, -, -, -, -, rfl⟩ := jv_sIcmp_inv q
      exact jv_grow_rfl hw
    | ifnull off =>
      try dsimp only at q
      obtain ⟨-, q⟩ := jv_if q
      obtain ⟨_, _, -, -, -, -, rfl⟩ := jv_sNull_inv q
      exact jv_grow_rfl hw
    | ifnonnull off =>
      try dsimp only at q
      obtain ⟨-, q⟩ := jv_if q
      obtain ⟨_, _, -, -, -, -, rfl⟩ := jv_sNonn_inv q
      exact jv_grow_rfl hw
    | if_acmp cd off =>
      try dsimp only at q
      obtain ⟨-, q⟩ := jv_if q
      obtain ⟨_, _, _, -, -, -, -, rfl⟩ := jv_sAcmp_inv q
      exact jv_grow_rfl hw
    | goto off =>
      try dsimp only at q
      obtain ⟨-, q⟩ := jv_if q
      obtain ⟨-, -, -, rfl⟩ := jv_jmp_inv q
      exact jv_grow_rfl hw
    | tableswitch dflt lo hi offs =>
      try dsimp only at q
      obtain ⟨_, -, -, rfl, -⟩ := jv_sTab_inv q
      exact jv_grow_rfl hw
    | lookupswitch dflt ps =>
      try dsimp only at q
      obtain ⟨_, -, -, rfl, -⟩ := jv_sLook_inv q
      exact jv_grow_rfl hw
    | putfield i =>
      try dsimp only at q
      obtain ⟨-, q⟩ := jv_if q
      obtain ⟨_, _, _, _, -, -, -, q, -, -⟩ := jv_sPut_inv q
      exact jv_put_grow hw q
    | iastore  =>
      try dsimp only at q
      obtain ⟨-, q⟩ := jv_if q
      obtain ⟨_, _, _, -, q, -, -⟩ := jv_sIast_inv q
      exact jv_ast_grow hw q
    | bastore  =>
      try dsimp only at q
      obtain ⟨-, q⟩ := jv_if q
      obtain ⟨_, _, _, -, -, q, -, -⟩ := jv_sBast_inv q
      exact jv_ast_grow hw q
    | aastore  =>
      try dsimp only at q
      obtain ⟨-, q⟩ := jv_if q
      obtain ⟨_, _, _, -, q, -, -⟩ := jv_sAast_inv q
      exact jv_rst_grow hw q
    | newarray atype =>
      try dsimp only at q
      cases atype <;> first
        | (obtain ⟨-, q⟩ := jv_if q
           obtain ⟨_, _, -, -, q, -, -⟩ := jv_sNewi_inv q
           obtain ⟨-, -, rfl⟩ := jv_newi_inv q
           exact ⟨Nat.le_succ _, Nat.le_add_right _ _, jv_wf_push hw _ _⟩)
        | (cases q)
    | anewarray i =>
      try dsimp only at q
      obtain ⟨-, q⟩ := jv_if q
      obtain ⟨_, _, _, -, -, -, q, -, -⟩ := jv_sNewr_inv q
      obtain ⟨-, -, rfl⟩ := jv_newr_inv q
      exact ⟨Nat.le_succ _, Nat.le_add_right _ _, jv_wf_push hw _ _⟩
    | new i =>
      try dsimp only at q
      obtain ⟨-, q⟩ := jv_if q
      obtain ⟨_, -, -, q, -, -⟩ := jv_sNew_inv q
      obtain ⟨_, -, rfl⟩ := jv_newo_inv q
      exact ⟨Nat.le_succ _, Nat.le_add_right _ _, jv_wf_push hw _ _⟩
    | invokevirtual i =>
      try dsimp only at q
      obtain ⟨-, q⟩ := jv_if q
      split at q
      · rename_i hi
        obtain ⟨_, _, _, -, -, -, q, -, -, -⟩ := jv_cV_inv q
        exact hcal _ _ _ _ _ q hw (hG.2.2.2.2.2.1 _ _ _ _ _ hi).1
      · cases q
    | invokestatic i =>
      try dsimp only at q
      obtain ⟨-, q⟩ := jv_if q
      split at q
      · rename_i hi
        obtain ⟨_, -, -, q, -, -, -⟩ := jv_cS_inv q
        exact hcal _ _ _ _ _ q hw (hG.2.2.2.2.2.1 _ _ _ _ _ hi).1
      · cases q
    | invokespecial i =>
      try dsimp only at q
      obtain ⟨-, q⟩ := jv_if q
      split at q
      · rename_i hi
        obtain ⟨_, _, _, -, -, q, -, -, -⟩ := jv_cI_inv q
        exact hcal _ _ _ _ _ q hw (hG.2.2.2.2.2.1 _ _ _ _ _ hi).1
      · obtain ⟨_, -, -, -, -, rfl⟩ := jv_c0_inv q
        exact jv_grow_rfl hw
      · cases q
    | ireturn  =>
      try dsimp only at q
      obtain ⟨-, q⟩ := jv_if q
      unfold jv_iret at q
      split at q <;> first | (cases q) | (obtain ⟨-, q⟩ := jv_if q; cases q)
    | lreturn  =>
      try dsimp only at q
      obtain ⟨-, q⟩ := jv_if q
      unfold jv_lret at q
      split at q <;> first | (cases q) | (obtain ⟨-, q⟩ := jv_if q; cases q)
    | areturn  =>
      try dsimp only at q
      obtain ⟨-, q⟩ := jv_if q
      unfold jv_aret at q
      split at q <;> first | (cases q) | (obtain ⟨-, q⟩ := jv_if q; cases q)
    | return_  =>
      try dsimp only at q
      obtain ⟨-, q⟩ := jv_if q
      unfold jv_vret at q
      split at q <;> first | (cases q) | (obtain ⟨-, q⟩ := jv_if q; cases q)
    | _ => cases q
end
section
/-! ===== one step of the small machine is one of the machine ===== -/
theorem jv_ne_no {ci : Nat} {fs : List Value} (h : ci < 999) : (Sum.inr (ci, fs) : jv_C) ≠ jv_no := by
  intro z
  simp only [jv_no, Sum.inr.injEq, Prod.mk.injEq] at z
  omega
theorem jg_cl_at {G : jv_G} {ci : Nat} {w : vw_C × (Nat → FieldType)} (h : (jg_cls G)[ci]? = some w) : (jg_cl G)[ci]? = some (w.1.1, w.1.2.1, w.1.2.2) := by
  simp [jg_cl, h]
theorem jv_cats_ev (base b : Nat) (S : List Value) : ((S.map (jv_ev base b)).map fun v => v.category).sum = jv_cats S := by
  unfold jv_cats
  rw [List.map_map]
  congr 1
  apply List.map_congr_left
  intro v _
  exact jv_ev_cat base b v
theorem jv_fit_spec {base b : Nat} {ty : FieldType} {v : Value} (h : jv_fit ty v = true) : narrow ty (jv_ev base b v) = jv_ev base b v ∧ fits ty (jv_ev base b v) = true := by
  unfold jv_fit at h
  split at h
  · exact ⟨rfl, rfl⟩
  · rcases of_decide_eq_true h with rfl | rfl <;> exact ⟨rfl, rfl⟩
  · exact ⟨rfl, rfl⟩
  · exact ⟨rfl, rfl⟩
  · exact ⟨rfl, rfl⟩
  · exact ⟨rfl, rfl⟩
  · cases h
theorem jv_ret_map (base b : Nat) (r : Option Value) (rest : List Value) : (r.toList ++ rest).map (jv_ev base b) = (r.map (jv_ev base b)).toList ++ rest.map (jv_ev base b) := by
  cases r <;> simp
theorem jv_blind {G : jv_G} (hn : ∀ w ∈ jg_nw G, jg_nf w) {X : Nat × (Nat → Int32)} {D : va_G} {base b : Nat} {cA : Nat → ClassId} {as : List Value} {h : jv_H} : FrameBlind (jv_Pc G X D base b cA as h) := by
  intro a U g mk q
  obtain ⟨q0, q1, q2⟩ := q
  exact ⟨q0, jv_Wd.moved (u := U) (U := U.calling g mk a) (Vm.Alike.refl U.vm) q1, jv_K.same (s := U) (U := U.calling g mk a) hn rfl q2⟩
theorem jg_good {G : jv_G} (hG : jg_ok G) {y : Nat} (hm : jg_mok G y) : GoodIn (jg_ws G) (jg_mws G y) := by
  intro w hw
  have hw' : w ∈ jg_ws G := by
    rcases List.mem_cons.mp hw with rfl | hw
    · exact hm.2.2.1
    · exact hw
  exact ⟨hw', hG.2.2.1 w hw'⟩
theorem jg_tyO {G : jv_G} (hG : jg_ok G) {t : Nat} (h2 : 2 ≤ t) (hl : t < (jg_tys G).length) : ∃ C ci w, (jg_tys G)[t]? = some (.object C, ci) ∧ (jg_cls G)[ci]? = some w ∧ w.1.1 = C := by
  have he : (jg_tys G)[t]? = some (jg_tys G)[t] := List.getElem?_eq_getElem hl
  obtain ⟨C, w, h3, h4, h5⟩ := hG.2.2.2.2.2.2.2.2.2.2.2.2.2.2 t (jg_tys G)[t].1 (jg_tys G)[t].2 he h2
  exact ⟨C, (jg_tys G)[t].2, w, by rw [he, ← h3], h4, h5⟩
section JvStep
variable {p : Program} {l : Launch} {e : Env} {R : Room} {s : State} {m : MethodId} {args : Array Value} {below : List Frame} {meth : Method} {c : Code} {Q : State → Prop}
variable {G : jv_G} {X : Nat × (Nat → Int32)} {D : va_G} {base b : Nat} {cA : Nat → ClassId} {mi : Nat}
def jv_Cx (p : Program) (s : State) (m : MethodId) (args : Array Value) (meth : Method) (c : Code) (G : jv_G) (D : va_G) (cA : Nat → ClassId) (mi : Nat) : Prop :=
  p.tables.exec = Jvm.exec ∧ c.code = jg_code G mi ∧ c.maxLocals = jg_maxL G mi ∧ s.vm.findClass (jg_own G mi) = some m.cls ∧ (∀ w ∈ jg_ws G, w.before args s = true) ∧ ((jg_y G mi).name = "<init>" → meth.name = "<init>") ∧ jv_K G D cA s
theorem jv_goOn {H : Heap} {locs : List Loc} {cells slots mc ms pc : Nat} {ls : Array Slot} {st0 rest : List Value} {aa : Array Value} {r : Option Value} {h' : jv_H} (hr : va_Run p l e R s m args below meth c H locs cells slots mc ms (F0 m pc ls st0) rest (jv_Qc G X D base b cA r h' aa) (jv_A base)) (hS : va_S (jv_A base) s.heap H locs)
    (kk : ∀ (H1 : Heap) (locs1 : List Loc), jv_Wd G X D base b cA h' s H1 → va_S (jv_A base) s.heap H1 locs1 → W p l e R s m args below meth c H1 locs1 (cells + mc) (slots + ms) Q (F0 m (pc + 3) ls ((r.map (jv_ev base b)).toList ++ rest))) : W p l e R s m args below meth c H locs cells slots Q (F0 m pc ls st0) := by
  intro T hT X0
  obtain ⟨v, st₀, t, T', L, h0, X', hL, e1, e2, ⟨hv, hw, hz, hk⟩, st⟩ := hr T hT X0
  cases hv
  rw [h0] at hz hk
  have hal : t.vm.Alike s.vm := by rw [← e2]; exact X'.warmed.alike.symm
  obtain ⟨t2, a1, b1⟩ := kk T'.heap (locs ++ L) (by rw [e1]; exact hw.moved hal)
    ⟨Nat.le_trans hS.1 (by rw [e1]; exact hz), fun q h1 h2 => by rw [e1, hk q (Nat.lt_of_lt_of_le h1 hS.1) h2]; exact hS.2.1 q h1 h2, fun q hq => by
      rcases List.mem_append.mp hq with h | h
      · exact hS.2.2 q h
      · exact hL q h⟩ T' rfl X'
  exact ⟨t2, st t2 a1, b1⟩
set_option maxHeartbeats 16000000 in
set_option maxRecDepth 20000 in
theorem jv_step (hG : jg_ok G) (hbb : b < base) (CX : jv_Cx p s m args meth c G D cA mi) (hR : jg_fr G mi ≤ R.frames ∧ jg_lo G mi ≤ R.locals) {call : Nat → List Value → jv_H → Option jv_R} (hcal : jv_cal G X D base b cA l call)
    {pc pc' : Nat} {L L' : jv_L} {S S' : List Value} {h h' : jv_H} (hwf : jv_wf h) (q : jv_one G X call mi (pc, L, S, h) = some (.inr (pc', L', S', h'))) {n0 s0 : Nat} (hn0 : n0 ≤ h.1) (hs0 : s0 ≤ h.2.1) (hrc : h'.1 - n0 ≤ R.cells) (hrs : h'.2.1 - s0 ≤ R.slots)
    {H : Heap} {locs : List Loc} {ls : Array Slot} (hWd : jv_Wd G X D base b cA h s H) (hlv : jv_lv base b (jg_maxL G mi) L ls) (hS : va_S (jv_A base) s.heap H locs)
    (kk : ∀ (H1 : Heap) (locs1 : List Loc) (ls1 : Array Slot), jv_Wd G X D base b cA h' s H1 → jv_lv base b (jg_maxL G mi) L' ls1 → va_S (jv_A base) s.heap H1 locs1 → W p l e R s m args below meth c H1 locs1 (h'.1 - n0) (h'.2.1 - s0) Q (F0 m pc' ls1 (S'.map (jv_ev base b)))) :
    W p l e R s m args below meth c H locs (h.1 - n0) (h.2.1 - s0) Q (F0 m pc ls (S.map (jv_ev base b))) := by
  obtain ⟨hx, hb, hml, hown, hws, hnm, hKK⟩ := CX
  have hts : ∀ w ∈ jg_ws G, w.before args s = true := hws
  have hD : va_D (jv_A base) (jv_ws base b cA h) := jv_ws_D
  have hsz : H.size = base + h.1 := hWd.1
  unfold jv_one at q
  split at q
  case h_2 => cases q
  case h_1 w hd =>
    obtain ⟨ins, len⟩ := w
    dsimp only at q hd
    unfold jv_ins at q
    cases ins with
    | iconst n =>
      try dsimp only at q
      replace q := jv_if q; obtain ⟨rfl, q⟩ := q
      cases q
      exact lv_iconst hx hb hd rfl (kk H locs ls hWd hlv hS)
    | bipush n =>
      try dsimp only at q
      replace q := jv_if q; obtain ⟨rfl, q⟩ := q
      cases q
      exact lv_bipush hx hb hd rfl (kk H locs ls hWd hlv hS)
    | sipush n =>
      try dsimp only at q
      replace q := jv_if q; obtain ⟨rfl, q⟩ := q
      cases q
      exact lv_sipush hx hb hd rfl (kk H locs ls hWd hlv hS)
    | aconst_null  =>
      try dsimp only at q
      replace q := jv_if q; obtain ⟨rfl, q⟩ := q
      cases q
      exact lv_null hx hb hd (kk H locs ls hWd hlv hS)
    | ldc i =>
      try dsimp only at q
      replace q := jv_if q; obtain ⟨rfl, q⟩ := q
      obtain ⟨ho, rfl, rfl, rfl⟩ := jv_go_inv q
      cases hl : jg_ldc G mi i with
      | none => rw [hl] at ho; cases ho
      | some v =>
        rw [hl] at ho
        cases ho
        exact lv_ldc hx hb hown (hws _ (hG.2.2.2.2.2.2.2.2.1 _ _ _ hl)) hd (kk H locs ls hWd hlv hS)
    | ldc_w i =>
      try dsimp only at q
      replace q := jv_if q; obtain ⟨rfl, q⟩ := q
      obtain ⟨ho, rfl, rfl, rfl⟩ := jv_go_inv q
      cases hl : jg_ldc G mi i with
      | none => rw [hl] at ho; cases ho
      | some v =>
        rw [hl] at ho
        cases ho
        exact lv_ldcw hx hb hown (hws _ (hG.2.2.2.2.2.2.2.2.1 _ _ _ hl)) hd (kk H locs ls hWd hlv hS)
    | ldc2_w i =>
      try dsimp only at q
      replace q := jv_if q; obtain ⟨rfl, q⟩ := q
      obtain ⟨ho, rfl, rfl, rfl⟩ := jv_go_inv q
      cases hl : jg_ldl G mi i with
      | none => rw [hl] at ho; cases ho
      | some v =>
        rw [hl] at ho
        cases ho
        exact lv_ldc2 hx hb hown (hws _ (hG.2.2.2.2.2.2.2.2.2.1 _ _ _ hl)) hd (kk H locs ls hWd hlv hS)
    | iload_n i =>
      try dsimp only at q
      replace q := jv_if q; obtain ⟨rfl, q⟩ := q
      obtain ⟨ho, rfl, rfl, rfl⟩ := jv_go_inv q
      obtain ⟨x, hv, rfl⟩ := jv_pi_inv ho
      exact lv_iload_n hx hb hd rfl (jv_lv_at hlv hv) (kk H locs ls hWd hlv hS)
    | iload i =>
      try dsimp only at q
      replace q := jv_if q; obtain ⟨rfl, q⟩ := q
      obtain ⟨ho, rfl, rfl, rfl⟩ := jv_go_inv q
      obtain ⟨x, hv, rfl⟩ := jv_pi_inv ho
      exact lv_iload hx hb hd (jv_lv_at hlv hv) (kk H locs ls hWd hlv hS)
    | aload_n i =>
      try dsimp only at q
      replace q := jv_if q; obtain ⟨rfl, q⟩ := q
      obtain ⟨ho, rfl, rfl, rfl⟩ := jv_go_inv q
      rcases jv_pa_inv ho with ⟨hv, rfl⟩ | ⟨a, hv, rfl⟩
      · exact lv_aload_nN hx hb hd rfl (jv_lv_at hlv hv) (kk H locs ls hWd hlv hS)
      · exact lv_aload_n hx hb hd rfl (jv_lv_at hlv hv) (kk H locs ls hWd hlv hS)
    | aload i =>
      try dsimp only at q
      replace q := jv_if q; obtain ⟨rfl, q⟩ := q
      obtain ⟨ho, rfl, rfl, rfl⟩ := jv_go_inv q
      rcases jv_pa_inv ho with ⟨hv, rfl⟩ | ⟨a, hv, rfl⟩
      · exact lv_aloadN hx hb hd (jv_lv_at hlv hv) (kk H locs ls hWd hlv hS)
      · exact lv_aload hx hb hd (jv_lv_at hlv hv) (kk H locs ls hWd hlv hS)
    | iadd  =>
      try dsimp only at q
      replace q := jv_if q; obtain ⟨rfl, q⟩ := q
      obtain ⟨ho, rfl, rfl, rfl⟩ := jv_go_inv q
      obtain ⟨x, y, r, rfl, rfl⟩ := jv_bin_inv ho
      exact lv_iadd hx hb hd (kk H locs ls hWd hlv hS)
    | isub  =>
      try dsimp only at q
      replace q := jv_if q; obtain ⟨rfl, q⟩ := q
      obtain ⟨ho, rfl, rfl, rfl⟩ := jv_go_inv q
      obtain ⟨x, y, r, rfl, rfl⟩ := jv_bin_inv ho
      exact lv_isub hx hb hd (kk H locs ls hWd hlv hS)
    | imul  =>
      try dsimp only at q
      replace q := jv_if q; obtain ⟨rfl, q⟩ := q
      obtain ⟨ho, rfl, rfl, rfl⟩ := jv_go_inv q
      obtain ⟨x, y, r, rfl, rfl⟩ := jv_bin_inv ho
      exact lv_imul hx hb hd (kk H locs ls hWd hlv hS)
    | iand  =>
      try dsimp only at q
      replace q := jv_if q; obtain ⟨rfl, q⟩ := q
      obtain ⟨ho, rfl, rfl, rfl⟩ := jv_go_inv q
      obtain ⟨x, y, r, rfl, rfl⟩ := jv_bin_inv ho
      exact lv_iand hx hb hd (kk H locs ls hWd hlv hS)
    | ior  =>
      try dsimp only at q
      replace q := jv_if q; obtain ⟨rfl, q⟩ := q
      obtain ⟨ho, rfl, rfl, rfl⟩ := jv_go_inv q
      obtain ⟨x, y, r, rfl, rfl⟩ := jv_bin_inv ho
      exact lv_ior hx hb hd (kk H locs ls hWd hlv hS)
    | ishl  =>
      try dsimp only at q
      replace q := jv_if q; obtain ⟨rfl, q⟩ := q
      obtain ⟨ho, rfl, rfl, rfl⟩ := jv_go_inv q
      obtain ⟨x, y, r, rfl, rfl⟩ := jv_bin_inv ho
      exact lv_ishl hx hb hd (kk H locs ls hWd hlv hS)
    | ishr  =>
      try dsimp only at q
      replace q := jv_if q; obtain ⟨rfl, q⟩ := q
      obtain ⟨ho, rfl, rfl, rfl⟩ := jv_go_inv q
      obtain ⟨x, y, r, rfl, rfl⟩ := jv_bin_inv ho
      exact lv_ishr hx hb hd (kk H locs ls hWd hlv hS)
    | iushr  =>
      try dsimp only at q
      replace q := jv_if q; obtain ⟨rfl, q⟩ := q
      obtain ⟨ho, rfl, rfl, rfl⟩ := jv_go_inv q
      obtain ⟨x, y, r, rfl, rfl⟩ := jv_bin_inv ho
      exact lv_iushr hx hb hd rfl (kk H locs ls hWd hlv hS)
    | idiv  =>
      try dsimp only at q
      replace q := jv_if q; obtain ⟨rfl, q⟩ := q
      obtain ⟨ho, rfl, rfl, rfl⟩ := jv_go_inv q
      obtain ⟨x, y, r, rfl, rfl, hy⟩ := jv_dv_inv ho
      exact lv_idiv hx hb hd hy (kk H locs ls hWd hlv hS)
    | irem  =>
      try dsimp only at q
      replace q := jv_if q; obtain ⟨rfl, q⟩ := q
      obtain ⟨ho, rfl, rfl, rfl⟩ := jv_go_inv q
      obtain ⟨x, y, r, rfl, rfl, hy⟩ := jv_dv_inv ho
      exact lv_irem hx hb hd hy (kk H locs ls hWd hlv hS)
    | ineg  =>
      try dsimp only at q
      replace q := jv_if q; obtain ⟨rfl, q⟩ := q
      obtain ⟨ho, rfl, rfl, rfl⟩ := jv_go_inv q
      obtain ⟨x, r, rfl, rfl⟩ := jv_neg_inv ho
      exact lv_ineg hx hb hd (kk H locs ls hWd hlv hS)
    | i2l  =>
      try dsimp only at q
      replace q := jv_if q; obtain ⟨rfl, q⟩ := q
      obtain ⟨ho, rfl, rfl, rfl⟩ := jv_go_inv q
      obtain ⟨x, r, rfl, rfl⟩ := jv_i2l_inv ho
      exact lv_i2l hx hb hd rfl (kk H locs ls hWd hlv hS)
    | lcmp  =>
      try dsimp only at q
      replace q := jv_if q; obtain ⟨rfl, q⟩ := q
      obtain ⟨ho, rfl, rfl, rfl⟩ := jv_go_inv q
      obtain ⟨x, y, r, rfl, rfl⟩ := jv_lcmp_inv ho
      exact W.lcmp hx hb hd (kk H locs ls hWd hlv hS)
    | dup  =>
      try dsimp only at q
      replace q := jv_if q; obtain ⟨rfl, q⟩ := q
      obtain ⟨ho, rfl, rfl, rfl⟩ := jv_go_inv q
      obtain ⟨v, r, rfl, rfl, h1⟩ := jv_dup_inv ho
      exact lv_dup hx hb hd (by rw [jv_ev_cat]; exact h1) (kk H locs ls hWd hlv hS)
    | pop  =>
      try dsimp only at q
      replace q := jv_if q; obtain ⟨rfl, q⟩ := q
      obtain ⟨ho, rfl, rfl, rfl⟩ := jv_go_inv q
      obtain ⟨v, rfl, h1⟩ := jv_pop_inv ho
      exact lv_pop hx hb hd (by rw [jv_ev_cat]; exact h1) (kk H locs ls hWd hlv hS)
    | dup_x1  =>
      try dsimp only at q
      replace q := jv_if q; obtain ⟨rfl, q⟩ := q
      obtain ⟨ho, rfl, rfl, rfl⟩ := jv_go_inv q
      obtain ⟨v, w, r, rfl, rfl, h1, h2⟩ := jv_dupx1_inv ho
      exact lv_dup_x1 hx hb hd (by rw [jv_ev_cat]; exact h1) (by rw [jv_ev_cat]; exact h2) (kk H locs ls hWd hlv hS)
    | dup_x2  =>
      try dsimp only at q
      replace q := jv_if q; obtain ⟨rfl, q⟩ := q
      obtain ⟨ho, rfl, rfl, rfl⟩ := jv_go_inv q
      obtain ⟨v, w, u, r, rfl, rfl, h1, h2, h3⟩ := jv_dupx2_inv ho
      exact lv_dup_x2 hx hb hd (by rw [jv_ev_cat]; exact h1) (by rw [jv_ev_cat]; exact h2) (by rw [jv_ev_cat]; exact h3) (kk H locs ls hWd hlv hS)
    | dup2  =>
      try dsimp only at q
      replace q := jv_if q; obtain ⟨rfl, q⟩ := q
      obtain ⟨ho, rfl, rfl, rfl⟩ := jv_go_inv q
      obtain ⟨v, w, r, rfl, rfl, h1, h2⟩ := jv_dup2_inv ho
      exact lv_dup2_11 hx hb hd (by rw [jv_ev_cat]; exact h1) (by rw [jv_ev_cat]; exact h2) (kk H locs ls hWd hlv hS)
    | getfield i =>
      try dsimp only at q
      replace q := jv_if q; obtain ⟨rfl, q⟩ := q
      obtain ⟨ho, rfl, rfl, rfl⟩ := jv_go_inv q
      obtain ⟨ci, k, a, r, v, hf, rfl, hg, rfl⟩ := jv_sGet_inv ho
      obtain ⟨fs, hc1, hv⟩ := jv_get_inv hg
      obtain ⟨w, hw1, hk, hlk⟩ := hG.2.2.2.2.1 _ _ _ _ hf
      have hci : ci < 999 := Nat.lt_of_lt_of_le (List.getElem?_eq_some_iff.mp hw1).1 hG.1
      obtain ⟨a', rfl, ha⟩ := jv_place hwf hc1 (jv_ne_no hci)
      have he : (jv_ws base b cA h')[a']? = some (base + a', .inr (ci, fs.map (jv_ev base b))) := by rw [jv_ws_at ha, hc1]; rfl
      have hcl := jg_cl_at hw1
      obtain ⟨hin, hty0, hnms⟩ := hG.2.2.2.1 w (List.mem_of_getElem? hw1)
      rcases hlk with hlk | ⟨-, host, hlk⟩
      · exact va_get (D := D) hx hb hws hin hown hKK.1 hWd.2.1 a' he hcl k hk (hws _ hlk) (fun _ z => z) (by rw [List.getElem?_map, hv]; rfl) hd (kk H locs ls hWd hlv hS)
      · exact va_getN (D := D) hx hb hws hin hown hKK.1 hWd.2.1 a' he hcl k hk (va_Nw.use rfl (hKK.2.1 _ hlk)) (fun _ z => z) (by rw [List.getElem?_map, hv]; rfl) hd (kk H locs ls hWd hlv hS)
    | arraylength  =>
      try dsimp only at q
      replace q := jv_if q; obtain ⟨rfl, q⟩ := q
      obtain ⟨ho, rfl, rfl, rfl⟩ := jv_go_inv q
      obtain ⟨a, r, v, rfl, rfl, hlen⟩ := jv_alen_inv ho
      cases a with
      | zero =>
        cases hlen
        obtain ⟨scr, h1, h2, h3, h4, h5⟩ := hWd.2.2
        exact W.alen (n := Int32.ofNat X.1) hx hb h1 h2 (by rw [h4] <;> rfl) rfl rfl hd (kk H locs ls hWd hlv hS)
      | succ a =>
        simp only [jv_len] at hlen
        split at hlen
        · rename_i t n arr hc1
          obtain ⟨hlt, hlen⟩ := jv_if hlen
          cases hlen
          obtain ⟨a', ha1, ha⟩ := jv_place hwf hc1 (by intro z; cases z)
          cases ha1
          have hty := jv_tyl_at (cA := cA) (List.getElem?_eq_getElem hlt)
          cases arr with
          | inl f =>
            have he : (jv_ws base b cA h')[a]? = some (base + a, .inl (cA t, n, .inl f)) := by rw [jv_ws_at ha, hc1]; rfl
            exact va_alen (D := D) hx hb hKK.1 hWd.2.1 a t he hty rfl hd (kk H locs ls hWd hlv hS)
          | inr f =>
            have he : (jv_ws base b cA h')[a]? = some (base + a, .inl (cA t, n, .inr (.inr (.inr (.inr (fun j => (f j).map (jv_ea base b))))))) := by rw [jv_ws_at ha, hc1]; rfl
            exact va_alen (D := D) hx hb hKK.1 hWd.2.1 a t he hty rfl hd (kk H locs ls hWd hlv hS)
        · cases hlen
    | iaload  =>
      try dsimp only at q
      replace q := jv_if q; obtain ⟨rfl, q⟩ := q
      obtain ⟨ho, rfl, rfl, rfl⟩ := jv_go_inv q
      obtain ⟨i, r, ho⟩ := jv_sIalo_inv ho
      rcases ho with ⟨rfl, hin, rfl⟩ | ⟨a, x, rfl, ha1, rfl⟩
      · obtain ⟨scr, h1, h2, h3, h4, h5⟩ := hWd.2.2
        have hlt : i.toNatClampNeg < X.1 := Nat.not_le.mp fun z => hin (Or.inr z)
        exact W.iald (v := .int (X.2 i.toNatClampNeg)) hx hb h1 h2 h3 (by rw [h4]; exact hin) (h5 _ hlt) rfl rfl hd (kk H locs ls hWd hlv hS)
      · obtain ⟨n, f, hc1, hin, rfl⟩ := jv_ald_inv ha1
        obtain ⟨a', ha2, ha⟩ := jv_place hwf hc1 (by intro z; cases z)
        cases ha2
        have he : (jv_ws base b cA h')[a]? = some (base + a, .inl (cA 0, n, .inl f)) := by rw [jv_ws_at ha, hc1]; rfl
        exact va_iald (D := D) hx hb hKK.1 hWd.2.1 a 0 he (jv_tyl_at hG.2.2.2.2.2.2.2.2.2.2.1) hin hd (kk H locs ls hWd hlv hS)
    | baload  =>
      try dsimp only at q
      replace q := jv_if q; obtain ⟨rfl, q⟩ := q
      obtain ⟨ho, rfl, rfl, rfl⟩ := jv_go_inv q
      obtain ⟨i, r, a, x, rfl, ha1, rfl⟩ := jv_sBalo_inv ho
      obtain ⟨n, f, hc1, hin, rfl⟩ := jv_ald_inv ha1
      obtain ⟨a', rfl, ha⟩ := jv_place hwf hc1 (by intro z; cases z)
      have he : (jv_ws base b cA h')[a']? = some (base + a', .inl (cA 1, n, .inl f)) := by rw [jv_ws_at ha, hc1]; rfl
      exact va_zald (D := D) hx hb hKK.1 hWd.2.1 a' 1 he (jv_tyl_at hG.2.2.2.2.2.2.2.2.2.2.2.1) hin hd (kk H locs ls hWd hlv hS)
    | aaload  =>
      try dsimp only at q
      replace q := jv_if q; obtain ⟨rfl, q⟩ := q
      obtain ⟨ho, rfl, rfl, rfl⟩ := jv_go_inv q
      obtain ⟨i, r, a, x, rfl, ha1, rfl⟩ := jv_sAalo_inv ho
      obtain ⟨t, n, f, hc1, hin, ht2, htl, rfl⟩ := jv_rld_inv ha1
      obtain ⟨a', rfl, ha⟩ := jv_place hwf hc1 (by intro z; cases z)
      obtain ⟨C, ci, wq, hty, -, -⟩ := jg_tyO hG ht2 htl
      have hty := jv_tyl_at (cA := cA) hty
      have he : (jv_ws base b cA h')[a']? = some (base + a', .inl (cA t, n, .inr (.inr (.inr (.inr (fun j => (f j).map (jv_ea base b))))))) := by rw [jv_ws_at ha, hc1]; rfl
      refine va_aldq (D := D) hx hb hKK.1 hWd.2.1 a' t he hty hin hd ?_
      have := (kk H locs ls hWd hlv hS)
      rwa [List.map_cons, jv_ev_rf] at this
    | istore_n i =>
      try dsimp only at q
      replace q := jv_if q; obtain ⟨rfl, q⟩ := q
      obtain ⟨ho, rfl, rfl⟩ := jv_gol_inv q
      obtain ⟨x, rfl, hk, rfl⟩ := jv_si_inv ho
      exact lv_istore_n hx hb hd rfl hlv.1 (by rw [← hlv.2.1]; exact hk) rfl (fun ls1 hl1 => kk H locs ls1 hWd (jv_lv_set hlv hk rfl rfl hl1) hS)
    | istore i =>
      try dsimp only at q
      replace q := jv_if q; obtain ⟨rfl, q⟩ := q
      obtain ⟨ho, rfl, rfl⟩ := jv_gol_inv q
      obtain ⟨x, rfl, hk, rfl⟩ := jv_si_inv ho
      exact lv_istore hx hb hd hlv.1 (by rw [← hlv.2.1]; exact hk) rfl (fun ls1 hl1 => kk H locs ls1 hWd (jv_lv_set hlv hk rfl rfl hl1) hS)
    | astore_n i =>
      try dsimp only at q
      replace q := jv_if q; obtain ⟨rfl, q⟩ := q
      obtain ⟨ho, rfl, rfl⟩ := jv_gol_inv q
      obtain ⟨hk, ho⟩ := jv_sa_inv ho
      rcases ho with ⟨rfl, rfl⟩ | ⟨a, rfl, rfl⟩
      · exact lv_astore_nN hx hb hd rfl hlv.1 (by rw [← hlv.2.1]; exact hk) rfl (fun ls1 hl1 => kk H locs ls1 hWd (jv_lv_set hlv hk rfl rfl hl1) hS)
      · exact lv_astore_n hx hb hd rfl hlv.1 (by rw [← hlv.2.1]; exact hk) rfl (fun ls1 hl1 => kk H locs ls1 hWd (jv_lv_set hlv hk rfl rfl hl1) hS)
    | astore i =>
      try dsimp only at q
      replace q := jv_if q; obtain ⟨rfl, q⟩ := q
      obtain ⟨ho, rfl, rfl⟩ := jv_gol_inv q
      obtain ⟨hk, ho⟩ := jv_sa_inv ho
      rcases ho with ⟨rfl, rfl⟩ | ⟨a, rfl, rfl⟩
      · exact lv_astoreN hx hb hd hlv.1 (by rw [← hlv.2.1]; exact hk) rfl (fun ls1 hl1 => kk H locs ls1 hWd (jv_lv_set hlv hk rfl rfl hl1) hS)
      · exact lv_astore hx hb hd hlv.1 (by rw [← hlv.2.1]; exact hk) rfl (fun ls1 hl1 => kk H locs ls1 hWd (jv_lv_set hlv hk rfl rfl hl1) hS)
    | iinc i n =>
      try dsimp only at q
      replace q := jv_if q; obtain ⟨rfl, q⟩ := q
      split at q
      · rename_i x hv
        cases q
        have hk := jv_ld_lt hv
        obtain ⟨k, hk2⟩ := List.getElem?_of_mem (jv_asc_mem (base := base) (b := b) (q := (i, .int x)).mpr ⟨_, hv, rfl⟩)
        exact lv_iinc (k := k) hx hb hd hlv.1 hk2 rfl (by rw [← hlv.2.1]; exact hk) rfl (fun ls1 hl1 => kk H locs ls1 hWd (jv_lv_set hlv hk rfl rfl hl1) hS)
      · cases q
    | ifCond cd off =>
      try dsimp only at q
      replace q := jv_if q; obtain ⟨rfl, q⟩ := q
      obtain ⟨x, tgt, rfl, ht, rfl, rfl, rfl⟩ := jv_sIf_inv q
      have kt : jv_c2 cd x 0 = true → W p l e R s m args below meth c H locs (h'.1 - n0) (h'.2.1 - s0) Q (F0 m tgt ls (S'.map (jv_ev base b))) := by
        intro z
        have := (kk H locs ls hWd hlv hS)
        rwa [z, if_pos rfl] at this
      have kf : jv_c2 cd x 0 = false → W p l e R s m args below meth c H locs (h'.1 - n0) (h'.2.1 - s0) Q (F0 m (pc + 3) ls (S'.map (jv_ev base b))) := by
        intro z
        have := (kk H locs ls hWd hlv hS)
        rwa [z, if_neg (by decide)] at this
      cases cd with
      | eq => exact lv_if_eq hx hb hd ht (fun z => kt (by simp [jv_c2, z])) (fun z => kf (by simp [jv_c2, z]))
      | ne => exact lv_if_ne hx hb hd ht (fun z => kt (by simp [jv_c2, z])) (fun z => kf (by simp [jv_c2, z]))
      | lt => exact lv_if_lt hx hb hd ht (fun z => kt (by simp [jv_c2, z])) (fun z => kf (by simp [jv_c2, z]))
      | ge => exact lv_if_ge hx hb hd ht (fun z => kt (by simp [jv_c2, z])) (fun z => kf (by simp [jv_c2, z]))
      | gt => exact lv_if_gt hx hb hd ht (fun z => kt (by simp [jv_c2, z])) (fun z => kf (by simp [jv_c2, z]))
      | le => exact lv_if_le hx hb hd ht (fun z => kt (by simp [jv_c2, z])) (fun z => kf (by simp [jv_c2, z]))
    | if_icmp cd off =>
      try dsimp only at q
      replace q := jv_if q; obtain ⟨rfl, q⟩ := q
      obtain ⟨x, y, tgt, rfl, ht, rfl, rfl, rfl⟩ := jv_sIcmp_inv q
      have kt : jv_c2 cd x y = true → W p l e R s m args below meth c H locs (h'.1 - n0) (h'.2.1 - s0) Q (F0 m tgt ls (S'.map (jv_ev base b))) := by
        intro z
        have := (kk H locs ls hWd hlv hS)
        rwa [z, if_pos rfl] at this
      have kf : jv_c2 cd x y = false → W p l e R s m args below meth c H locs (h'.1 - n0) (h'.2.1 - s0) Q (F0 m (pc + 3) ls (S'.map (jv_ev base b))) := by
        intro z
        have := (kk H locs ls hWd hlv hS)
        rwa [z, if_neg (by decide)] at this
      cases cd with
      | eq => exact lv_icmp_eq hx hb hd ht (fun z => kt (by simp [jv_c2, z])) (fun z => kf (by simp [jv_c2, z]))
      | ne => exact lv_icmp_ne hx hb hd ht (fun z => kt (by simp [jv_c2, z])) (fun z => kf (by simp [jv_c2, z]))
      | lt => exact lv_icmp_lt hx hb hd ht (fun z => kt (by simp [jv_c2, z])) (fun z => kf (by simp [jv_c2, z]))
      | ge => exact lv_icmp_ge hx hb hd ht (fun z => kt (by simp [jv_c2, z])) (fun z => kf (by simp [jv_c2, z]))
      | gt => exact lv_icmp_gt hx hb hd ht (fun z => kt (by simp [jv_c2, z])) (fun z => kf (by simp [jv_c2, z]))
      | le => exact lv_icmp_le hx hb hd ht (fun z => kt (by simp [jv_c2, z])) (fun z => kf (by simp [jv_c2, z]))
    | ifnull off =>
      try dsimp only at q
      replace q := jv_if q; obtain ⟨rfl, q⟩ := q
      obtain ⟨v, tgt, rfl, ht, rfl, rfl, rfl⟩ := jv_sNull_inv q
      cases v with
      | none => exact lv_ifnullN hx hb hd ht (kk H locs ls hWd hlv hS)
      | some a => exact lv_ifnull hx hb hd (kk H locs ls hWd hlv hS)
    | ifnonnull off =>
      try dsimp only at q
      replace q := jv_if q; obtain ⟨rfl, q⟩ := q
      obtain ⟨v, tgt, rfl, ht, rfl, rfl, rfl⟩ := jv_sNonn_inv q
      cases v with
      | none => exact lv_ifnonnullN hx hb hd (kk H locs ls hWd hlv hS)
      | some a => exact lv_ifnonnull hx hb hd ht (kk H locs ls hWd hlv hS)
    | if_acmp cd off =>
      try dsimp only at q
      replace q := jv_if q; obtain ⟨rfl, q⟩ := q
      obtain ⟨x, y, tgt, rfl, ht, rfl, rfl, rfl⟩ := jv_sAcmp_inv q
      have hi : x.map (jv_ea base b) = y.map (jv_ea base b) ↔ x = y := by
        constructor
        · intro z
          cases x <;> cases y <;> first | rfl | (cases z) | (have z2 := jv_ea_inj hbb (Option.some.inj z); rw [z2])
        · intro z; rw [z]
      have hk := (kk H locs ls hWd hlv hS)
      simp only [List.map_cons, jv_ev_rf]
      cases cd with
      | eq =>
        refine lv_acmp_eq hx hb hd ht (fun z => ?_) (fun z => ?_)
        · have z2 := hi.mp z
          simpa [z2] using hk
        · have z2 : ¬ x = y := fun w => z (hi.mpr w)
          simpa [z2] using hk
      | ne =>
        refine lv_acmp_ne hx hb hd ht (fun z => ?_) (fun z => ?_)
        · have z2 : ¬ x = y := fun w => z (hi.mpr w)
          simpa [z2] using hk
        · have z2 := hi.mp z
          simpa [z2] using hk
    | goto off =>
      try dsimp only at q
      replace q := jv_if q; obtain ⟨rfl, q⟩ := q
      obtain ⟨ht, rfl, rfl, rfl⟩ := jv_jmp_inv q
      exact lv_goto hx hb hd ht (kk H locs ls hWd hlv hS)
    | tableswitch dflt lo hi offs =>
      try dsimp only at q
      obtain ⟨x, rfl, rfl, rfl, hx2⟩ := jv_sTab_inv q
      rcases hx2 with ⟨ho, ht⟩ | ⟨ho, off, hof, ht⟩
      · exact lv_tableOut hx hb hd ho ht (kk H locs ls hWd hlv hS)
      · exact lv_tableIn hx hb hd (fun z => ho (Or.inl z)) (fun z => ho (Or.inr z)) hof ht (kk H locs ls hWd hlv hS)
    | lookupswitch dflt ps =>
      try dsimp only at q
      obtain ⟨x, rfl, rfl, rfl, hp, ht⟩ := jv_sLook_inv q
      exact lv_lookup hx hb hd hp rfl ht (kk H locs ls hWd hlv hS)
    | putfield i =>
      try dsimp only at q
      replace q := jv_if q; obtain ⟨rfl, q⟩ := q
      obtain ⟨ci, k, v, a, hf, rfl, hty, hp, rfl, rfl⟩ := jv_sPut_inv q
      obtain ⟨fs, hc1, hl, rfl⟩ := jv_put_inv hp
      obtain ⟨w, hw1, hk, hlk⟩ := hG.2.2.2.2.1 _ _ _ _ hf
      have hci : ci < 999 := Nat.lt_of_lt_of_le (List.getElem?_eq_some_iff.mp hw1).1 hG.1
      obtain ⟨a', rfl, ha⟩ := jv_place hwf hc1 (jv_ne_no hci)
      have he : (jv_ws base b cA h)[a']? = some (base + a', .inr (ci, fs.map (jv_ev base b))) := by rw [jv_ws_at ha, hc1]; rfl
      have hcl := jg_cl_at hw1
      obtain ⟨hin, hty0, hnms⟩ := hG.2.2.2.1 w (List.mem_of_getElem? hw1)
      unfold jv_fty at hty
      rw [hw1] at hty
      simp only [Bool.and_eq_true, Bool.or_eq_true, Bool.not_eq_true', decide_eq_true_eq] at hty
      obtain ⟨hft, hfin⟩ := hty
      obtain ⟨hnr, hfi⟩ := jv_fit_spec (base := base) (b := b) hft
      have hl2 : k < (fs.map (jv_ev base b)).length := by rw [List.length_map]; exact hl
      have hset : (fs.map (jv_ev base b)).set k (jv_ev base b v) = (fs.set k v).map (jv_ev base b) := (List.map_set ..).symm
      have kk2 : jw_K p l e R s m args below meth c H (h.1 - n0) (h.2.1 - s0) Q D (jg_cl G) (jv_A base) s.heap (base + a') ((jv_ws base b cA h).set a' (base + a', .inr (ci, (fs.map (jv_ev base b)).set k (jv_ev base b v)))) (F0 m (pc + 3) ls (S'.map (jv_ev base b))) := by
        rw [hset]
        exact fun H1 locs1 z oq hP1 hS1 => kk H1 locs1 ls ⟨by rw [z]; exact hsz, by rw [← jv_ws_put ha (.inr (ci, fs.set k v))]; exact hP1, hWd.2.2.kept (oq b (by omega))⟩ hlv hS1
      cases hfl : (w.1.2.1 k).2.2.2 with
      | false =>
        refine jw_put (D := D) hx hb hws hin w.2 hty0 hnms hown hKK.1 hWd.2.1 hD hS a' he hcl k hk ?_ hfl hnr hfi hl2 hd kk2
        rcases hlk with hlk | ⟨-, host, hlk⟩
        · exact Or.inl (hws _ hlk)
        · exact Or.inr ⟨host, va_Nw.use rfl (hKK.2.1 _ hlk)⟩
      | true =>
        rw [hfl] at hfin
        rcases hfin with hfin | ⟨hi1, hi2⟩
        · cases hfin
        rcases hlk with hlk | ⟨hne, -⟩
        · exact jw_putF (D := D) hx hb hws hin w.2 hty0 hnms hown hKK.1 hWd.2.1 hD hS a' he hcl k hk (hws _ hlk) hfl (hnm hi1) hi2 hnr hfi hl2 hd kk2
        · exact absurd hi2 hne
    | iastore  =>
      try dsimp only at q
      replace q := jv_if q; obtain ⟨rfl, q⟩ := q
      obtain ⟨x, i, a, rfl, ha1, rfl, rfl⟩ := jv_sIast_inv q
      obtain ⟨n, f, hc1, hin, rfl⟩ := jv_ast_inv ha1
      obtain ⟨a', rfl, ha⟩ := jv_place hwf hc1 (by intro z; cases z)
      have he : (jv_ws base b cA h)[a']? = some (base + a', .inl (cA 0, n, .inl f)) := by rw [jv_ws_at ha, hc1]; rfl
      exact jw_iast (D := D) hx hb hKK.1 hWd.2.1 hD hS a' 0 he (jv_tyl_at hG.2.2.2.2.2.2.2.2.2.2.1) hin hd (fun H1 locs1 z oq hP1 hS1 => kk H1 locs1 ls ⟨by rw [z]; exact hsz, by rw [← jv_ws_put ha (.inl (0, n, .inl (va_up f i.toNatClampNeg x)))]; exact hP1, hWd.2.2.kept (oq b (by omega))⟩ hlv hS1)
    | bastore  =>
      try dsimp only at q
      replace q := jv_if q; obtain ⟨rfl, q⟩ := q
      obtain ⟨x, i, a, rfl, hx01, ha1, rfl, rfl⟩ := jv_sBast_inv q
      obtain ⟨n, f, hc1, hin, rfl⟩ := jv_ast_inv ha1
      obtain ⟨a', rfl, ha⟩ := jv_place hwf hc1 (by intro z; cases z)
      have he : (jv_ws base b cA h)[a']? = some (base + a', .inl (cA 1, n, .inl f)) := by rw [jv_ws_at ha, hc1]; rfl
      exact jw_zast (D := D) hx hb hKK.1 hWd.2.1 hD hS a' 1 he (jv_tyl_at hG.2.2.2.2.2.2.2.2.2.2.2.1) hx01 hin hd (fun H1 locs1 z oq hP1 hS1 => kk H1 locs1 ls ⟨by rw [z]; exact hsz, by rw [← jv_ws_put ha (.inl (1, n, .inl (va_up f i.toNatClampNeg x)))]; exact hP1, hWd.2.2.kept (oq b (by omega))⟩ hlv hS1)
    | aastore  =>
      try dsimp only at q
      replace q := jv_if q; obtain ⟨rfl, q⟩ := q
      obtain ⟨v, i, a, rfl, ha1, rfl, rfl⟩ := jv_sAast_inv q
      obtain ⟨t, n, f, w, hc1, hin, ht2, ht, hisc, rfl⟩ := jv_rst_inv ha1
      obtain ⟨a', rfl, ha⟩ := jv_place hwf hc1 (by intro z; cases z)
      have he : (jv_ws base b cA h)[a']? = some (base + a', .inl (cA t, n, .inr (.inr (.inr (.inr (fun j => (f j).map (jv_ea base b))))))) := by rw [jv_ws_at ha, hc1]; rfl
      have hup : va_up (fun j => (f j).map (jv_ea base b)) i.toNatClampNeg (v.map (jv_ea base b)) = (fun j => (va_up f i.toNatClampNeg v j).map (jv_ea base b)) := by
        funext j
        by_cases hj : j = i.toNatClampNeg <;> simp [va_up, hj]
      have kk2 : jw_K p l e R s m args below meth c H (h.1 - n0) (h.2.1 - s0) Q D (jg_cl G) (jv_A base) s.heap (base + a') ((jv_ws base b cA h).set a' (base + a', .inl (cA t, n, .inr (.inr (.inr (.inr (va_up (fun j => (f j).map (jv_ea base b)) i.toNatClampNeg (v.map (jv_ea base b))))))))) (F0 m (pc + 1) ls (S'.map (jv_ev base b))) := by
        rw [hup]
        exact fun H1 locs1 z oq hP1 hS1 => kk H1 locs1 ls ⟨by rw [z]; exact hsz, by rw [← jv_ws_put ha (.inl (t, n, .inr (va_up f i.toNatClampNeg v)))]; exact hP1, hWd.2.2.kept (oq b (by omega))⟩ hlv hS1
      obtain ⟨C, ci, wq, hty, hw1, hw2⟩ := jg_tyO hG ht2 (List.getElem?_eq_some_iff.mp ht).1
      have hwe : w = (.object C, ci) := Option.some.inj (ht.symm.trans hty)
      subst hwe
      have hty := jv_tyl_at (cA := cA) hty
      cases v with
      | none => exact jw_astqN (D := D) hx hb hKK.1 hWd.2.1 hD hS a' t he hty hin hd kk2
      | some a2 =>
        obtain ⟨fs, hc2⟩ := jv_isC_inv hisc
        have hci : ci < 999 := Nat.lt_of_lt_of_le (List.getElem?_eq_some_iff.mp hw1).1 hG.1
        obtain ⟨a3, rfl, ha3⟩ := jv_place hwf hc2 (jv_ne_no hci)
        have he2 : (jv_ws base b cA h)[a3]? = some (base + a3, .inr (ci, fs.map (jv_ev base b))) := by rw [jv_ws_at ha3, hc2]; rfl
        have hty2 : (jv_tyl G cA)[t]? = some (cA t, .object wq.1.1) := by rw [hw2]; exact hty
        exact jw_astq (D := D) (r := wq.1) hx hb hKK.1 hWd.2.1 hD hS a' t a3 ci he hty2 he2 (jg_cl_at hw1) hin hd kk2
    | newarray atype =>
      try dsimp only at q
      cases atype with
      | int =>
        replace q := jv_if q; obtain ⟨rfl, q⟩ := q
        obtain ⟨n, r, rfl, rfl, q2, rfl, rfl⟩ := jv_sNewi_inv q
        obtain ⟨hn, hN, rfl⟩ := jv_newi_inv q2
        have hc1 : h.1 - n0 + 1 ≤ R.cells := by have : h.1 + 1 - n0 ≤ R.cells := hrc; omega
        have hs1 : h.2.1 - s0 + n.toNatClampNeg ≤ R.slots := by have : h.2.1 + n.toNatClampNeg - s0 ≤ R.slots := hrs; omega
        refine jw_newa (D := D) (A := jv_A base) (H0 := s.heap) (atype := .int) (ty := .int) hx hb (hws _ hG.2.2.2.2.2.2.2.2.2.2.2.2.1) rfl rfl hKK.1 hWd.2.1 hS (t0 := 0) (jv_tyl_at hG.2.2.2.2.2.2.2.2.2.2.1) (fun C z => by cases z) hn rfl (Nat.le_trans (Nat.mul_le_mul_right _ hN) (by decide)) hc1 hs1 hd ?_
        rw [hsz]
        exact fun H1 z oq hP1 hS1 => W.cs (cells' := h.1 + 1 - n0) (slots' := h.2.1 + n.toNatClampNeg - s0) (by omega) (by omega) (kk H1 locs ls ⟨by rw [z, hsz]; rfl, by rw [jv_ws_push]; exact hP1, hWd.2.2.kept (oq b (by omega))⟩ hlv hS1)
      | boolean =>
        replace q := jv_if q; obtain ⟨rfl, q⟩ := q
        obtain ⟨n, r, rfl, rfl, q2, rfl, rfl⟩ := jv_sNewi_inv q
        obtain ⟨hn, hN, rfl⟩ := jv_newi_inv q2
        have hc1 : h.1 - n0 + 1 ≤ R.cells := by have : h.1 + 1 - n0 ≤ R.cells := hrc; omega
        have hs1 : h.2.1 - s0 + n.toNatClampNeg ≤ R.slots := by have : h.2.1 + n.toNatClampNeg - s0 ≤ R.slots := hrs; omega
        refine jw_newa (D := D) (A := jv_A base) (H0 := s.heap) (atype := .boolean) (ty := .boolean) hx hb (hws _ hG.2.2.2.2.2.2.2.2.2.2.2.2.2.1) rfl rfl hKK.1 hWd.2.1 hS (t0 := 1) (jv_tyl_at hG.2.2.2.2.2.2.2.2.2.2.2.1) (fun C z => by cases z) hn rfl (Nat.le_trans (Nat.mul_le_mul_right _ hN) (by decide)) hc1 hs1 hd ?_
        rw [hsz]
        exact fun H1 z oq hP1 hS1 => W.cs (cells' := h.1 + 1 - n0) (slots' := h.2.1 + n.toNatClampNeg - s0) (by omega) (by omega) (kk H1 locs ls ⟨by rw [z, hsz]; rfl, by rw [jv_ws_push]; exact hP1, hWd.2.2.kept (oq b (by omega))⟩ hlv hS1)
      | _ => cases q
    | anewarray i =>
      try dsimp only at q
      replace q := jv_if q; obtain ⟨rfl, q⟩ := q
      obtain ⟨t, n, r, ht, rfl, rfl, q2, rfl, rfl⟩ := jv_sNewr_inv q
      obtain ⟨hn, hN, rfl⟩ := jv_newr_inv q2
      obtain ⟨C, ci, hty, hlk⟩ := hG.2.2.2.2.2.2.2.1 _ _ _ ht
      have hc1 : h.1 - n0 + 1 ≤ R.cells := by have : h.1 + 1 - n0 ≤ R.cells := hrc; omega
      have hs1 : h.2.1 - s0 + n.toNatClampNeg ≤ R.slots := by have : h.2.1 + n.toNatClampNeg - s0 ≤ R.slots := hrs; omega
      refine jw_newq (D := D) (A := jv_A base) (H0 := s.heap) hx hb hown (hws _ hlk) (hKK.2.2 _ _ _ hty) hKK.1 hWd.2.1 hS (t0 := t) (jv_tyl_at hty) hn rfl (by omega) hc1 hs1 hd ?_
      rw [hsz]
      exact fun H1 z oq hP1 hS1 => W.cs (cells' := h.1 + 1 - n0) (slots' := h.2.1 + n.toNatClampNeg - s0) (by omega) (by omega) (kk H1 locs ls ⟨by rw [z, hsz]; rfl, by rw [jv_ws_push]; exact hP1, hWd.2.2.kept (oq b (by omega))⟩ hlv hS1)
    | new i =>
      try dsimp only at q
      replace q := jv_if q; obtain ⟨rfl, q⟩ := q
      obtain ⟨ci, ht, rfl, q2, rfl, rfl⟩ := jv_sNew_inv q
      obtain ⟨w, hw1, rfl⟩ := jv_newo_inv q2
      obtain ⟨w', hw2, hlk, hins, hini⟩ := hG.2.2.2.2.2.2.1 _ _ _ ht
      cases hw1.symm.trans hw2
      obtain ⟨hin, hty0, hnms⟩ := hG.2.2.2.1 w (List.mem_of_getElem? hw1)
      have hc1 : h.1 - n0 + 1 ≤ R.cells := by have : h.1 + 1 - n0 ≤ R.cells := hrc; omega
      have hs1 : h.2.1 - s0 + w.1.2.2 ≤ R.slots := by have : h.2.1 + w.1.2.2 - s0 ≤ R.slots := hrs; omega
      have hfs : ∀ j, j < w.1.2.2 → defaultValue (w.2 j) = vp_V (((List.range w.1.2.2).map (fun k => jv_def (w.2 k))).map (jv_ev base b)) j := by
        intro j hj
        have hdv : jv_ev base b (jv_def (w.2 j)) = defaultValue (w.2 j) := by unfold jv_def; cases w.2 j <;> rfl
        simp [vp_V, hj, hdv]
      refine jw_new (D := D) (A := jv_A base) (H0 := s.heap) hx hb hws hin w.2 hty0 hown (hws _ hlk) (hws _ hins) (hws _ hini) hKK.1 hWd.2.1 hS (jg_cl_at hw1) hfs hc1 hs1 hd ?_
      rw [hsz]
      exact fun H1 z oq hP1 hS1 => W.cs (cells' := h.1 + 1 - n0) (slots' := h.2.1 + w.1.2.2 - s0) (by omega) (by omega) (kk H1 locs ls ⟨by rw [z, hsz]; rfl, by rw [jv_ws_push]; exact hP1, hWd.2.2.kept (oq b (by omega))⟩ hlv hS1)
    | invokevirtual i =>
      try dsimp only at q
      replace q := jv_if q; obtain ⟨rfl, q⟩ := q
      split at q
      · rename_i y n hi
        obtain ⟨a, rest, r, hdr, hcats, hisc, hcl, rfl, rfl, rfl⟩ := jv_cV_inv q
        obtain ⟨hmok, heok, hlk, hdesc, hinst, hsel, w, hw1, hwn⟩ := hG.2.2.2.2.2.1 _ _ _ _ _ hi
        obtain ⟨hle1, hle2, hwf', hmet⟩ := hcal _ _ _ _ _ hcl hwf hmok
        have hlt : n < S.length := by
          rcases Nat.lt_or_ge n S.length with z | z
          · exact z
          · rw [List.drop_eq_nil_of_le z] at hdr; cases hdr
        have hstk : S.map (jv_ev base b) = ((S.take n).reverse.map (jv_ev base b)).reverse ++ .ref (jv_ea base b a) :: rest.map (jv_ev base b) := by
          rw [← List.map_reverse, List.reverse_reverse, ← jv_ev_ref, ← List.map_cons, ← hdr, ← List.map_append, List.take_append_drop]
        have hlen2 : ((S.take n).reverse.map (jv_ev base b)).length = n := by simp; omega
        have hroom : (jv_room G y (h'.1 - h.1) (h'.2.1 - h.2.1)).frames + 1 ≤ R.frames ∧ 8 + (jg_maxL G y + 11) + (jv_room G y (h'.1 - h.1) (h'.2.1 - h.2.1)).locals ≤ R.locals := ⟨Nat.le_trans heok.1 hR.1, Nat.le_trans heok.2 hR.2⟩
        have hroom2 : h.1 - n0 + (h'.1 - h.1) ≤ R.cells ∧ h.2.1 - s0 + (h'.2.1 - h.2.1) ≤ R.slots := ⟨by omega, by omega⟩
        obtain ⟨fs, hc1⟩ := jv_isC_inv hisc
        have hci : jg_mc G y < 999 := Nat.lt_of_lt_of_le (List.getElem?_eq_some_iff.mp hw1).1 hG.1
        obtain ⟨a', rfl, ha⟩ := jv_place hwf hc1 (jv_ne_no hci)
        have he : (jv_ws base b cA h)[a']? = some (base + a', .inr (jg_mc G y, fs.map (jv_ev base b))) := by rw [jv_ws_at ha, hc1]; rfl
        have hpre : PreV s H (jg_y G y).cls (base + a') (jv_Pc G X D base b cA (.ref (a' + 1) :: (S.take n).reverse) h) ((S.take n).reverse.map (jv_ev base b)) := ⟨jv_blind hG.2.1, by rw [← hwn]; exact va_recv hKK.1 hWd.2.1 (jg_cl_at hw1) he, fun U hU hW => ⟨rfl, ⟨by rw [hU]; exact hWd.1, by rw [hU]; exact hWd.2.1, by rw [hU]; exact hWd.2.2.moved hW.alike⟩, hKK.warm hG.2.1 hW⟩⟩
        have hrun : va_Run p l e R s m args below meth c H locs (h.1 - n0) (h.2.1 - s0) (h'.1 - h.1) (h'.2.1 - h.2.1) (F0 m pc ls (S.map (jv_ev base b))) (rest.map (jv_ev base b)) (jv_Qc G X D base b cA r h' (Value.ref (base + a') :: (S.take n).reverse.map (jv_ev base b)).toArray) (jv_A base) := by
          rcases hlk with hlk | ⟨host, hlk⟩
          · exact va_runV ⟨hx, hb, hml, hown, hts⟩ hmet ⟨callB_of n hts (jg_good hG hmok) rfl rfl rfl (hws _ hmok.2.2.2.1) (hws _ hlk) ⟨hmok.2.2.2.2.1, hmok.2.2.2.2.2, hdesc⟩ hroom, hws _ hinst, hws _ hsel⟩ hpre rfl hlen2 hlv.1.1 hstk (lv_room (by rw [jv_cats_ev]; exact hcats)) hd hroom2
          · exact va_runVN ⟨hx, hb, hml, hown, hts⟩ hmet ⟨va_cnB n hts (jg_good hG hmok) rfl rfl rfl (hKK.2.1 _ hlk) (hws _ hmok.2.2.2.1) ⟨hmok.2.2.2.2.1, hmok.2.2.2.2.2, hdesc⟩ hroom, hws _ hinst, hws _ hsel⟩ hpre rfl hlen2 hlv.1.1 hstk (lv_room (by rw [jv_cats_ev]; exact hcats)) hd hroom2
        refine jv_goOn hrun hS (fun H1 locs1 hWd1 hS1 => W.cs (cells' := h'.1 - n0) (slots' := h'.2.1 - s0) (by omega) (by omega) ?_)
        have := kk H1 locs1 ls hWd1 hlv hS1
        rwa [jv_ret_map] at this
      · cases q
    | invokestatic i =>
      try dsimp only at q
      replace q := jv_if q; obtain ⟨rfl, q⟩ := q
      split at q
      · rename_i y n hi
        obtain ⟨r, hle, hcats, hcl, rfl, rfl, rfl⟩ := jv_cS_inv q
        obtain ⟨hmok, heok, hlk, hdesc, hstat⟩ := hG.2.2.2.2.2.1 _ _ _ _ _ hi
        obtain ⟨hle1, hle2, hwf', hmet⟩ := hcal _ _ _ _ _ hcl hwf hmok
        have hroom : (jv_room G y (h'.1 - h.1) (h'.2.1 - h.2.1)).frames + 1 ≤ R.frames ∧ 8 + (jg_maxL G y + 11) + (jv_room G y (h'.1 - h.1) (h'.2.1 - h.2.1)).locals ≤ R.locals := ⟨Nat.le_trans heok.1 hR.1, Nat.le_trans heok.2 hR.2⟩
        have hroom2 : h.1 - n0 + (h'.1 - h.1) ≤ R.cells ∧ h.2.1 - s0 + (h'.2.1 - h.2.1) ≤ R.slots := ⟨by omega, by omega⟩
        have hstk : S.map (jv_ev base b) = ((S.take n).reverse.map (jv_ev base b)).reverse ++ (S.drop n).map (jv_ev base b) := by
          rw [← List.map_reverse, List.reverse_reverse, ← List.map_append, List.take_append_drop]
        have hlen2 : ((S.take n).reverse.map (jv_ev base b)).length = n := by simp; omega
        have hpre : PreS s H (jv_Pc G X D base b cA (S.take n).reverse h) ((S.take n).reverse.map (jv_ev base b)) := ⟨jv_blind hG.2.1, fun U hU hW => ⟨rfl, ⟨by rw [hU]; exact hWd.1, by rw [hU]; exact hWd.2.1, by rw [hU]; exact hWd.2.2.moved hW.alike⟩, hKK.warm hG.2.1 hW⟩⟩
        have hrun : va_Run p l e R s m args below meth c H locs (h.1 - n0) (h.2.1 - s0) (h'.1 - h.1) (h'.2.1 - h.2.1) (F0 m pc ls (S.map (jv_ev base b))) ((S.drop n).map (jv_ev base b)) (jv_Qc G X D base b cA r h' ((S.take n).reverse.map (jv_ev base b)).toArray) (jv_A base) := by
          rcases hlk with hlk | ⟨host, hlk⟩
          · exact va_runS ⟨hx, hb, hml, hown, hts⟩ hmet ⟨callB_of n hts (jg_good hG hmok) rfl rfl rfl (hws _ hmok.2.2.2.1) (hws _ hlk) ⟨hmok.2.2.2.2.1, hmok.2.2.2.2.2, hdesc⟩ hroom, hws _ hstat⟩ hpre rfl hlen2 hlv.1.1 hstk (lv_room (by rw [jv_cats_ev]; exact hcats)) hd hroom2
          · exact va_runSN ⟨hx, hb, hml, hown, hts⟩ hmet ⟨va_cnB n hts (jg_good hG hmok) rfl rfl rfl (hKK.2.1 _ hlk) (hws _ hmok.2.2.2.1) ⟨hmok.2.2.2.2.1, hmok.2.2.2.2.2, hdesc⟩ hroom, hws _ hstat, trivial⟩ hpre rfl hlen2 hlv.1.1 hstk (lv_room (by rw [jv_cats_ev]; exact hcats)) hd hroom2
        refine jv_goOn hrun hS (fun H1 locs1 hWd1 hS1 => W.cs (cells' := h'.1 - n0) (slots' := h'.2.1 - s0) (by omega) (by omega) ?_)
        have := kk H1 locs1 ls hWd1 hlv hS1
        rwa [jv_ret_map] at this
      · cases q
    | invokespecial i =>
      try dsimp only at q
      replace q := jv_if q; obtain ⟨rfl, q⟩ := q
      split at q
      · rename_i y n hi
        obtain ⟨a, rest, r, hdr, hcats, hcl, rfl, rfl, rfl⟩ := jv_cI_inv q
        obtain ⟨hmok, heok, hlk, hdesc, hinst, hnam, hrt⟩ := hG.2.2.2.2.2.1 _ _ _ _ _ hi
        obtain ⟨hle1, hle2, hwf', hmet⟩ := hcal _ _ _ _ _ hcl hwf hmok
        have hlt : n < S.length := by
          rcases Nat.lt_or_ge n S.length with z | z
          · exact z
          · rw [List.drop_eq_nil_of_le z] at hdr; cases hdr
        have hstk : S.map (jv_ev base b) = ((S.take n).reverse.map (jv_ev base b)).reverse ++ .ref (jv_ea base b a) :: rest.map (jv_ev base b) := by
          rw [← List.map_reverse, List.reverse_reverse, ← jv_ev_ref, ← List.map_cons, ← hdr, ← List.map_append, List.take_append_drop]
        have hlen2 : ((S.take n).reverse.map (jv_ev base b)).length = n := by simp; omega
        have hroom : (jv_room G y (h'.1 - h.1) (h'.2.1 - h.2.1)).frames + 1 ≤ R.frames ∧ 8 + (jg_maxL G y + 11) + (jv_room G y (h'.1 - h.1) (h'.2.1 - h.2.1)).locals ≤ R.locals := ⟨Nat.le_trans heok.1 hR.1, Nat.le_trans heok.2 hR.2⟩
        have hroom2 : h.1 - n0 + (h'.1 - h.1) ≤ R.cells ∧ h.2.1 - s0 + (h'.2.1 - h.2.1) ≤ R.slots := ⟨by omega, by omega⟩
        have hpre : PreS s H (jv_Pc G X D base b cA (.ref a :: (S.take n).reverse) h) (.ref (jv_ea base b a) :: (S.take n).reverse.map (jv_ev base b)) := ⟨jv_blind hG.2.1, fun U hU hW => ⟨rfl, ⟨by rw [hU]; exact hWd.1, by rw [hU]; exact hWd.2.1, by rw [hU]; exact hWd.2.2.moved hW.alike⟩, hKK.warm hG.2.1 hW⟩⟩
        unfold jv_Met jg_mws at hmet
        rw [hrt] at hmet
        have hgood : GoodIn (jg_ws G) (Cond.code (jg_y G y) (jg_code G y) (jg_maxL G y) none :: jg_ws G) := by rw [← hrt]; exact jg_good hG hmok
        have hrun : va_Run p l e R s m args below meth c H locs (h.1 - n0) (h.2.1 - s0) (h'.1 - h.1) (h'.2.1 - h.2.1) (F0 m pc ls (S.map (jv_ev base b))) (rest.map (jv_ev base b)) (jv_Qc G X D base b cA r h' (Value.ref (jv_ea base b a) :: (S.take n).reverse.map (jv_ev base b)).toArray) (jv_A base) := by
          rcases hlk with hlk | ⟨host, hlk⟩
          · exact va_runI ⟨hx, hb, hml, hown, hts⟩ hmet ⟨callB_of n hts hgood rfl rfl rfl (hws _ hmok.2.2.2.1) (hws _ hlk) ⟨hmok.2.2.2.2.1, hmok.2.2.2.2.2, hdesc⟩ hroom, hnam, hws _ hinst⟩ hpre rfl hlen2 hlv.1.1 hstk (lv_room (by rw [jv_cats_ev]; exact hcats)) hd hroom2
          · exact va_runIN ⟨hx, hb, hml, hown, hts⟩ hmet ⟨va_cnB n hts hgood rfl rfl rfl (hKK.2.1 _ hlk) (hws _ hmok.2.2.2.1) ⟨hmok.2.2.2.2.1, hmok.2.2.2.2.2, hdesc⟩ hroom, hnam, hws _ hinst⟩ hpre rfl hlen2 hlv.1.1 hstk (lv_room (by rw [jv_cats_ev]; exact hcats)) hd hroom2
        refine jv_goOn hrun hS (fun H1 locs1 hWd1 hS1 => W.cs (cells' := h'.1 - n0) (slots' := h'.2.1 - s0) (by omega) (by omega) ?_)
        have := kk H1 locs1 ls hWd1 hlv hS1
        rwa [jv_ret_map] at this
      · rename_i y n hi
        obtain ⟨a, rfl, hcats, rfl, rfl, rfl⟩ := jv_c0_inv q
        obtain ⟨hlk, hinst, hcode, hfr1, hlo20⟩ := hG.2.2.2.2.2.1 _ _ _ _ _ hi
        refine W.objInit hx hb hown (hws _ hlk) (hws _ hinst) (hws _ hcode) rfl (by rw [hml]; exact hlv.1.1) rfl hd (Nat.le_trans hfr1 hR.1) ?_ (kk H locs ls hWd hlv hS)
        have h8 := lv_room (m := m) (pc := pc) (ls := ls) (rest := (Value.ref a :: S').map (jv_ev base b)) (st := S'.map (jv_ev base b)) (by rw [jv_cats_ev]; exact hcats)
        have h40 := hR.2
        omega
      · cases q
    | ireturn  =>
      try dsimp only at q
      obtain ⟨-, q⟩ := jv_if q
      unfold jv_iret at q
      split at q <;> first | (cases q) | (obtain ⟨-, q⟩ := jv_if q; cases q)
    | lreturn  =>
      try dsimp only at q
      obtain ⟨-, q⟩ := jv_if q
      unfold jv_lret at q
      split at q <;> first | (cases q) | (obtain ⟨-, q⟩ := jv_if q; cases q)
    | areturn  =>
      try dsimp only at q
      obtain ⟨-, q⟩ := jv_if q
      unfold jv_aret at q
      split at q <;> first | (cases q) | (obtain ⟨-, q⟩ := jv_if q; cases q)
    | return_  =>
      try dsimp only at q
      obtain ⟨-, q⟩ := jv_if q
      unfold jv_vret at q
      split at q <;> first | (cases q) | (obtain ⟨-, q⟩ := jv_if q; cases q)
    | _ => cases q
end JvStep
end
section
/-! ===== a run of the small machine is a run of the machine ===== -/
theorem jv_go_inl {pc : Nat} {L : jv_L} {h : jv_H} {o : Option (List Value)} {r : jv_R} (q : jv_go pc L h o = some (.inl r)) : False := by cases o <;> cases q
theorem jv_gol_inl {pc : Nat} {h : jv_H} {o : Option (jv_L × List Value)} {r : jv_R} (q : jv_gol pc h o = some (.inl r)) : False := by cases o <;> cases q
theorem jv_goh_inl {pc : Nat} {L : jv_L} {S : List Value} {o : Option jv_H} {r : jv_R} (q : jv_goh pc L S o = some (.inl r)) : False := by cases o <;> cases q
theorem jv_done_inl {pc : Nat} {L : jv_L} {S : List Value} {o : Option jv_R} {r : jv_R} (q : jv_done pc L S o = some (.inl r)) : False := by cases o <;> cases q
theorem jv_jmp_inl {pc : Nat} {off : Int} {L : jv_L} {S : List Value} {h : jv_H} {r : jv_R} (q : jv_jmp pc off L S h = some (.inl r)) : False := by
  unfold jv_jmp at q
  obtain ⟨-, q⟩ := jv_if q
  cases q
theorem jv_br_inl {b : Bool} {pc : Nat} {off : Int} {L : jv_L} {S : List Value} {h : jv_H} {r : jv_R} (q : jv_br b pc off L S h = some (.inl r)) : False := by
  unfold jv_br at q
  obtain ⟨-, q⟩ := jv_if q
  cases q
def jv_rets (G : jv_G) (mi pc : Nat) (S : List Value) (r : Option Value) : Prop :=
  (decode (jg_code G mi) pc = .ok (.ireturn, 1) ∧ ∃ v, S = [.int v] ∧ r = some (.int v) ∧ (jg_ret G mi = some .int ∨ (jg_ret G mi = some .boolean ∧ (v = 0 ∨ v = 1)))) ∨
  (decode (jg_code G mi) pc = .ok (.lreturn, 1) ∧ ∃ v, S = [.long v] ∧ r = some (.long v) ∧ jg_ret G mi = some .long) ∨
  (decode (jg_code G mi) pc = .ok (.areturn, 1) ∧ ∃ x C, S = [va_rf x] ∧ r = some (va_rf x) ∧ jg_ret G mi = some (.object C)) ∨
  (decode (jg_code G mi) pc = .ok (.return_, 1) ∧ S = [] ∧ r = none ∧ jg_ret G mi = none)
set_option maxHeartbeats 4000000 in
theorem jv_one_ret {G : jv_G} {X : Nat × (Nat → Int32)} {call : Nat → List Value → jv_H → Option jv_R} {mi pc : Nat} {L : jv_L} {S : List Value} {h hf : jv_H} {r : Option Value} (q : jv_one G X call mi (pc, L, S, h) = some (.inl (r, hf))) : hf = h ∧ jv_rets G mi pc S r := by
  unfold jv_one at q
  split at q
  case h_2 => cases q
  case h_1 w hd =>
    obtain ⟨ins, len⟩ := w
    dsimp only at q hd
    unfold jv_ins at q
    cases ins with
    | iconst n =>
      try dsimp only at q
      obtain ⟨-, q⟩ := jv_if q
      cases q
    | bipush n =>
      try dsimp only at q
      obtain ⟨-, q⟩ := jv_if q
      cases q
    | sipush n =>
      try dsimp only at q
      obtain ⟨-, q⟩ := jv_if q
      cases q
    | aconst_null  =>
      try dsimp only at q
      obtain ⟨-, q⟩ := jv_if q
      cases q
    | ldc i =>
      try dsimp only at q
      obtain ⟨-, q⟩ := jv_if q
      exact (jv_go_inl q).elim
    | ldc_w i =>
      try dsimp only at q
      obtain ⟨-, q⟩ := jv_if q
      exact (jv_go_inl q).elim
    | ldc2_w i =>
      try dsimp only at q
      obtain ⟨-, q⟩ := jv_if q
      exact (jv_go_inl q).elim
    | iload_n i =>
      try dsimp only at q
      obtain ⟨-, q⟩ := jv_if q
      exact (jv_go_inl q).elim
    | iload i =>
      try dsimp only at q
      obtain ⟨-, q⟩ := jv_if q
      exact (jv_go_inl q).elim
    | aload_n i =>
      try dsimp only at q
      obtain ⟨-, q⟩ := jv_if q
      exact (jv_go_inl q).elim
    | aload i =>
      try dsimp only at q
      obtain ⟨-, q⟩ := jv_if q
      exact (jv_go_inl q).elim
    | iadd  =>
      try dsimp only at q
      obtain ⟨-, q⟩ := jv_if q
      exact (jv_go_inl q).elim
    | isub  =>
      try dsimp only at q
      obtain ⟨-, q⟩ := jv_if q
      exact (jv_go_inl q).elim
    | imul  =>
      try dsimp only at q
      obtain ⟨-, q⟩ := jv_if q
      exact (jv_go_inl q).elim
    | iand  =>
      try dsimp only at q
      obtain ⟨-, q⟩ := jv_if q
      exact (jv_go_inl q).elim
    | ior  =>
      try dsimp only at q
      obtain ⟨-, q⟩ := jv_if q
      exact (jv_go_inl q).elim
    | ishl  =>
      try dsimp only at q
      obtain ⟨-, q⟩ := jv_if q
      exact (jv_go_inl q).elim
    | ishr  =>
      try dsimp only at q
      obtain ⟨-, q⟩ := jv_if q
      exact (jv_go_inl q).elim
    | iushr  =>
      try dsimp only at q
      obtain ⟨-, q⟩ := jv_if q
      exact (jv_go_inl q).elim
    | idiv  =>
      try dsimp only at q
      obtain ⟨-, q⟩ := jv_if q
      exact (jv_go_inl q).elim
    | irem  =>
      try dsimp only at q
      obtain ⟨-, q⟩ := jv_if q
      exact (jv_go_inl q).elim
    | ineg  =>
      try dsimp only at q
      obtain ⟨-, q⟩ := jv_if q
      exact (jv_go_inl q).elim
    | i2l  =>
      try dsimp only at q
      obtain ⟨-, q⟩ := jv_if q
      exact (jv_go_inl q).elim
    | lcmp  =>
      try dsimp only at q
      obtain ⟨-, q⟩ := jv_if q
      exact (jv_go_inl q).elim
    | dup  =>
      try dsimp only at q
      obtain ⟨-, q⟩ := jv_if q
      exact (jv_go_inl q).elim
    | pop  =>
      try dsimp only at q
      obtain ⟨-, q⟩ := jv_if q
      exact (jv_go_inl q).elim
    | dup_x1  =>
      try dsimp only at q
      obtain ⟨-, q⟩ := jv_if q
      exact (jv_go_inl q).elim
    | dup_x2  =>
      try dsimp only at q
      obtain ⟨-, q⟩ := jv_if q
      exact (jv_go_inl q).elim
    | dup2  =>
      try dsimp only at q
      obtain ⟨-, q⟩ := jv_if q
      exact (jv_go_inl q).elim
    | getfield i =>
      try dsimp only at q
      obtain ⟨-, q⟩ := jv_if q
      exact (jv_go_inl q).elim
    | arraylength  =>
      try dsimp only at q
      obtain ⟨-, q⟩ := jv_if q
      exact (jv_go_inl q).elim
    | iaload  =>
      try dsimp only at q
      obtain ⟨-, q⟩ := jv_if q
      exact (jv_go_inl q).elim
    | baload  =>
      try dsimp only at q
      obtain ⟨-, q⟩ := jv_if q
      exact (jv_go_inl q).elim
    | aaload  =>
      try dsimp only at q
      obtain ⟨-, q⟩ := jv_if q
      exact (jv_go_inl q).elim
    | istore_n i =>
      try dsimp only at q
      obtain ⟨-, q⟩ := jv_if q
      exact (jv_gol_inl q).elim
    | istore i =>
      try dsimp only at q
      obtain ⟨-, q⟩ := jv_if q
      exact (jv_gol_inl q).elim
    | astore_n i =>
      try dsimp only at q
      obtain ⟨-, q⟩ := jv_if q
      exact (jv_gol_inl q).elim
    | astore i =>
      try dsimp only at q
      obtain ⟨-, q⟩ := jv_if q
      exact (jv_gol_inl q).elim
    | iinc i n =>
      try dsimp only at q
      obtain ⟨-, q⟩ := jv_if q
      split at q <;> cases q
    | ifCond cd off =>
      try dsimp only at q
      obtain ⟨-, q⟩ := jv_if q
      unfold jv_sIf at q
      repeat' split at q
      all_goals first | (cases q; done) | exact (jv_br_inl q).elim | (obtain ⟨-, q⟩ := jv_if q; exact (jv_br_inl q).elim)
    | if_icmp cd off =>
      try dsimp only at q
      obtain ⟨-, q⟩ := jv_if q
      unfold jv_sIcmp at q
      repeat' split at q
      all_goals first | (cases q; done) | exact (jv_br_inl q).elim | (obtain ⟨-, q⟩ := jv_if q; exact (jv_br_inl q).elim)
    | ifnull off =>
      try dsimp only at q
      obtain ⟨-, q⟩ := jv_if q
      unfold jv_sNull at q
      repeat' split at q
      all_goals first | (cases q; done) | exact (jv_br_inl q).elim | (obtain ⟨-, q⟩ := jv_if q; exact (jv_br_inl q).elim)
    | ifnonnull off =>
      try dsimp only at q
      obtain ⟨-, q⟩ := jv_if q
      unfold jv_sNonn at q
      repeat' split at q
      all_goals first | (cases q; done) | exact (jv_br_inl q).elim | (obtain ⟨-, q⟩ := jv_if q; exact (jv_br_inl q).elim)
    | if_acmp cd off =>
      try dsimp only at q
      obtain ⟨-, q⟩ := jv_if q
      unfold jv_sAcmp at q
      repeat' split at q
      all_goals first | (cases q; done) | exact (jv_br_inl q).elim | (obtain ⟨-, q⟩ := jv_if q; exact (jv_br_inl q).elim)
    | goto off =>
      try dsimp only at q
      obtain ⟨-, q⟩ := jv_if q
      exact (jv_jmp_inl q).elim
    | tableswitch dflt lo hi offs =>
      try dsimp only at q
      unfold jv_sTab at q
      repeat' split at q
      all_goals first | (cases q; done) | exact (jv_jmp_inl q).elim | (obtain ⟨-, q⟩ := jv_if q; exact (jv_jmp_inl q).elim)
    | lookupswitch dflt ps =>
      try dsimp only at q
      unfold jv_sLook at q
      repeat' split at q
      all_goals first | (cases q; done) | exact (jv_jmp_inl q).elim | (obtain ⟨-, q⟩ := jv_if q; exact (jv_jmp_inl q).elim)
    | putfield i =>
      try dsimp only at q
      obtain ⟨-, q⟩ := jv_if q
      unfold jv_sPut at q
      repeat' split at q
      all_goals first | (cases q; done) | exact (jv_goh_inl q).elim | (obtain ⟨-, q⟩ := jv_if q; exact (jv_goh_inl q).elim)
    | iastore  =>
      try dsimp only at q
      obtain ⟨-, q⟩ := jv_if q
      unfold jv_sIast at q
      repeat' split at q
      all_goals first | (cases q; done) | exact (jv_goh_inl q).elim | (obtain ⟨-, q⟩ := jv_if q; exact (jv_goh_inl q).elim)
    | bastore  =>
      try dsimp only at q
      obtain ⟨-, q⟩ := jv_if q
      unfold jv_sBast at q
      repeat' split at q
      all_goals first | (cases q; done) | exact (jv_goh_inl q).elim | (obtain ⟨-, q⟩ := jv_if q; exact (jv_goh_inl q).elim)
    | aastore  =>
      try dsimp only at q
      obtain ⟨-, q⟩ := jv_if q
      unfold jv_sAast at q
      repeat' split at q
      all_goals first | (cases q; done) | exact (jv_goh_inl q).elim | (obtain ⟨-, q⟩ := jv_if q; exact (jv_goh_inl q).elim)
    | newarray atype =>
      try dsimp only at q
      cases atype <;> first
        | (obtain ⟨-, q⟩ := jv_if q
           unfold jv_sNewi at q
           split at q
           · exact (jv_goh_inl q).elim
           · cases q)
        | (cases q)
    | anewarray i =>
      try dsimp only at q
      obtain ⟨-, q⟩ := jv_if q
      unfold jv_sNewr at q
      repeat' split at q
      all_goals first | (cases q; done) | exact (jv_goh_inl q).elim | (obtain ⟨-, q⟩ := jv_if q; exact (jv_goh_inl q).elim)
    | new i =>
      try dsimp only at q
      obtain ⟨-, q⟩ := jv_if q
      unfold jv_sNew at q
      repeat' split at q
      all_goals first | (cases q; done) | exact (jv_goh_inl q).elim | (obtain ⟨-, q⟩ := jv_if q; exact (jv_goh_inl q).elim)
    | invokevirtual i =>
      try dsimp only at q
      obtain ⟨-, q⟩ := jv_if q
      split at q
      · unfold jv_cV at q
        split at q
        · obtain ⟨-, q⟩ := jv_if q
          exact (jv_done_inl q).elim
        · cases q
      · cases q
    | invokestatic i =>
      try dsimp only at q
      obtain ⟨-, q⟩ := jv_if q
      split at q
      · unfold jv_cS at q
        obtain ⟨-, q⟩ := jv_if q
        exact (jv_done_inl q).elim
      · cases q
    | invokespecial i =>
      try dsimp only at q
      obtain ⟨-, q⟩ := jv_if q
      split at q
      · unfold jv_cI at q
        split at q
        · obtain ⟨-, q⟩ := jv_if q
          exact (jv_done_inl q).elim
        · cases q
      · unfold jv_c0 at q
        split at q
        · obtain ⟨-, q⟩ := jv_if q
          cases q
        · cases q
      · cases q
    | ireturn  =>
      try dsimp only at q
      replace q := jv_if q; obtain ⟨rfl, q⟩ := q
      unfold jv_iret at q
      split at q
      · rename_i v hr
        cases q
        exact ⟨rfl, Or.inl ⟨hd, _, rfl, rfl, Or.inl (by assumption)⟩⟩
      · obtain ⟨h1, q⟩ := jv_if q
        cases q
        exact ⟨rfl, Or.inl ⟨hd, _, rfl, rfl, Or.inr ⟨by assumption, h1⟩⟩⟩
      · cases q
    | lreturn  =>
      try dsimp only at q
      replace q := jv_if q; obtain ⟨rfl, q⟩ := q
      unfold jv_lret at q
      split at q
      · cases q
        exact ⟨rfl, Or.inr (Or.inl ⟨hd, _, rfl, rfl, by assumption⟩)⟩
      · cases q
    | areturn  =>
      try dsimp only at q
      replace q := jv_if q; obtain ⟨rfl, q⟩ := q
      unfold jv_aret at q
      split at q
      · cases q
        exact ⟨rfl, Or.inr (Or.inr (Or.inl ⟨hd, none, _, rfl, rfl, by assumption⟩))⟩
      · cases q
        exact ⟨rfl, Or.inr (Or.inr (Or.inl ⟨hd, some _, _, rfl, rfl, by assumption⟩))⟩
      · cases q
    | return_  =>
      try dsimp only at q
      replace q := jv_if q; obtain ⟨rfl, q⟩ := q
      unfold jv_vret at q
      split at q
      · cases q
        exact ⟨rfl, Or.inr (Or.inr (Or.inr ⟨hd, rfl, rfl, by assumption⟩))⟩
      · cases q
    | _ => cases q
theorem jv_run_grow {G : jv_G} (hG : jg_ok G) {X : Nat × (Nat → Int32)} {call : Nat → List Value → jv_H → Option jv_R} (hcal : jv_mcal G call) {mi : Nat} : ∀ (n : Nat) (st : jv_S) (r : Option Value) (hf : jv_H), jv_wf st.2.2.2 → jv_run G X call mi n st = some (r, hf) → jv_grow st.2.2.2 hf
  | 0, _, _, _, _, q => by simp [jv_run] at q
  | n + 1, st, r, hf, hw, q => by
    rw [jv_run] at q
    obtain ⟨pc, L, S, h⟩ := st
    cases ho : jv_one G X call mi (pc, L, S, h) with
    | none => rw [ho] at q; cases q
    | some w =>
      rw [ho] at q
      cases w with
      | inl r' =>
        cases q
        obtain ⟨rfl, -⟩ := jv_one_ret ho
        exact jv_grow_rfl hw
      | inr st' =>
        obtain ⟨pc', L', S', h'⟩ := st'
        have h1 : jv_grow h h' := jv_mono hG hcal hw ho
        have h2 := jv_run_grow hG hcal n _ r hf h1.2.2 q
        exact ⟨Nat.le_trans h1.1 h2.1, Nat.le_trans h1.2.1 h2.2.1, h2.2.2⟩
section JvRun
variable {p : Program} {l : Launch} {e : Env} {R : Room} {s : State} {m : MethodId} {args : Array Value} {below : List Frame} {meth : Method} {c : Code} {Q : State → Prop}
variable {G : jv_G} {X : Nat × (Nat → Int32)} {D : va_G} {base b : Nat} {cA : Nat → ClassId} {mi : Nat}
theorem jv_cal.mono {call : Nat → List Value → jv_H → Option jv_R} (h : jv_cal G X D base b cA l call) : jv_mcal G call := fun mi as h0 r h' q hw hm => ⟨(h mi as h0 r h' q hw hm).1, (h mi as h0 r h' q hw hm).2.1, (h mi as h0 r h' q hw hm).2.2.1⟩
theorem jv_run_sound (hG : jg_ok G) (hbb : b < base) (CX : jv_Cx p s m args meth c G D cA mi) (hR : jg_fr G mi ≤ R.frames ∧ jg_lo G mi ≤ R.locals) {call : Nat → List Value → jv_H → Option jv_R} (hcal : jv_cal G X D base b cA l call) {n0 s0 : Nat} {r : Option Value} {hf : jv_H} (hrc : hf.1 - n0 ≤ R.cells) (hrs : hf.2.1 - s0 ≤ R.slots)
    (hend : ∀ (pc : Nat) (S : List Value), jv_rets G mi pc S r → ∀ (H : Heap) (locs : List Loc) (ls : Array Slot), jv_Wd G X D base b cA hf s H → va_S (jv_A base) s.heap H locs → W p l e R s m args below meth c H locs (hf.1 - n0) (hf.2.1 - s0) Q (F0 m pc ls (S.map (jv_ev base b)))) :
    ∀ (n : Nat) (pc : Nat) (L : jv_L) (S : List Value) (h : jv_H), jv_wf h → jv_run G X call mi n (pc, L, S, h) = some (r, hf) → n0 ≤ h.1 → s0 ≤ h.2.1 → ∀ (H : Heap) (locs : List Loc) (ls : Array Slot), jv_Wd G X D base b cA h s H → jv_lv base b (jg_maxL G mi) L ls → va_S (jv_A base) s.heap H locs → W p l e R s m args below meth c H locs (h.1 - n0) (h.2.1 - s0) Q (F0 m pc ls (S.map (jv_ev base b))) := by
  intro n
  induction n with
  | zero => intro pc L S h hw q; simp [jv_run] at q
  | succ n ih =>
    intro pc L S h hw q hn0 hs0 H locs ls hWd hlv hS
    rw [jv_run] at q
    cases ho : jv_one G X call mi (pc, L, S, h) with
    | none => rw [ho] at q; cases q
    | some w =>
      rw [ho] at q
      cases w with
      | inl r' =>
        cases q
        obtain ⟨rfl, hret⟩ := jv_one_ret ho
        exact hend pc S hret H locs ls hWd hS
      | inr st' =>
        obtain ⟨pc', L', S', h'⟩ := st'
        have h1 : jv_grow h h' := jv_mono hG hcal.mono hw ho
        have h2 : jv_grow h' hf := jv_run_grow hG hcal.mono n _ r hf h1.2.2 q
        have g1 := h1.1
        have g2 := h1.2.1
        have g3 := h2.1
        have g4 := h2.2.1
        exact jv_step hG hbb CX hR hcal hw ho hn0 hs0 (by omega) (by omega) hWd hlv hS (fun H1 locs1 ls1 hWd1 hlv1 hS1 => ih pc' L' S' h' h1.2.2 q (by omega) (by omega) H1 locs1 ls1 hWd1 hlv1 hS1)
end JvRun
theorem jv_cat1_all {as : List Value} (h : as.all jv_cat1 = true) : ∀ v ∈ as, v.category = 1 := by
  intro v hv
  exact of_decide_eq_true (List.all_eq_true.mp h v hv)
set_option maxHeartbeats 4000000 in
theorem jv_sound {G : jv_G} (hG : jg_ok G) {X : Nat × (Nat → Int32)} {D : va_G} {base b : Nat} (hbb : b < base) {cA : Nat → ClassId} {l : Launch} : ∀ d, jv_cal G X D base b cA l (jv_F G X d) := by
  intro d
  induction d with
  | zero => intro mi as h r h' q; cases q
  | succ d ih =>
    intro mi as h r h' q hw hm
    unfold jv_F at q
    obtain ⟨⟨hc, hn⟩, q⟩ := jv_if q
    obtain ⟨n, q⟩ := jv_lim_run q
    have hgr : jv_grow h h' := jv_run_grow hG ih.mono n _ r h' hw q
    refine ⟨hgr.1, hgr.2.1, hgr.2.2, ?_⟩
    have hc1 := jv_cat1_all hc
    refine Met.ofW (cc := jg_code G mi) (maxL := jg_maxL G mi) (ret := jg_ret G mi) hm.1 rfl ?_
    intro p e s m args below meth c s₁ B hml hv
    obtain ⟨rfl, hWd, hK⟩ := hv
    have hlocks := B.notSynchronized
    have hx := B.exec
    have hb := B.bytes
    have hrt := B.returns
    have CX : jv_Cx p s m (as.map (jv_ev base b)).toArray meth c G D cA mi := ⟨hx, hb, hml, findClass_of_methodNamed B.named, fun w hw => atoms_spec (ws := jg_mws G mi) B.pre w (List.mem_cons_of_mem _ hw), fun z => by rw [(name_of_methodNamed B.named B.method).1]; exact z, hK⟩
    rw [lg_entry_eq]
    have hrun := jv_run_sound (p := p) (l := l) (e := e) (R := (headSpec (jg_mws G mi) (jv_room G mi (h'.1 - h.1) (h'.2.1 - h.2.1))).room) (s := s) (m := m) (below := below) (meth := meth) (c := c) (Q := MQ below (jv_Qc G X D base b cA r h') (as.map (jv_ev base b)).toArray s (h'.1 - h.1) (h'.2.1 - h.2.1) (jv_A base)) hG hbb CX ⟨Nat.le_refl _, Nat.le_refl _⟩ ih (n0 := h.1) (s0 := h.2.1) (r := r) (hf := h') (Nat.le_refl _) (Nat.le_refl _) ?_ n 0 _ [] h hw q (Nat.le_refl _) (Nat.le_refl _) s.heap [] _ hWd (jv_lv_entry hc1 hn) va_S.rf
    · rw [Nat.sub_self, Nat.sub_self] at hrun
      exact hrun
    · intro pc S hret H locs ls hWd1 hS1
      have hq : ∀ (t : State), t.heap = H → s.WarmedH t.vm → jv_Qc G X D base b cA r h' (as.map (jv_ev base b)).toArray s (.returned (r.map (jv_ev base b))) t := by
        intro t ht hW
        refine ⟨rfl, ?_, hS1.F ht⟩
        rw [ht]
        exact hWd1.moved hW.alike
      rcases hret with ⟨hd, v, rfl, rfl, hty⟩ | ⟨hd, v, rfl, rfl, hty⟩ | ⟨hd, x, C, rfl, rfl, hty⟩ | ⟨hd, rfl, rfl, hty⟩
      · rcases hty with hty | ⟨hty, hv01⟩
        · exact W.zret (ty := .int) hx hb (by rw [hrt, hty]) rfl hq hS1.2.2 hd
        · exact W.zret (ty := .boolean) hx hb (by rw [hrt, hty]) (by rcases hv01 with rfl | rfl <;> rfl) hq hS1.2.2 hd
      · exact W.lret hx hb (by rw [hrt, hty]) hq hS1.2.2 hd
      · have hv : jv_ev base b (va_rf x) = .null ∨ ∃ a, jv_ev base b (va_rf x) = .ref a := by cases x with
          | none => exact Or.inl rfl
          | some a => exact Or.inr ⟨_, rfl⟩
        exact W.aret (rt := .object C) hx hb (by rw [hrt, hty]) (Or.inl ⟨C, rfl⟩) hv hq hS1.2.2 hd
      · exact W.vret hx hb (by rw [hrt, hty]) hq hS1.2.2 hd
end
section
/-! ===== the tables at the start ===== -/
theorem jv_start {G : jv_G} (hG : jg_ok G) {args : Array Value} {s : State} (hI : ∀ q ∈ jg_cls G, Cond.instantiable q.1.1 q.1.2.2 ∈ jg_ws G) (hts : ∀ w ∈ jg_ws G, w.before args s = true) (hnw : ∀ w ∈ jg_nw G, w.before args s = true) (hov : ∀ (t : Nat) (C : String) (ci : Nat), (jg_tys G)[t]? = some (FieldType.object C, ci) → (Cond.arrayOver (.object C)).before args s = true) : ∃ (D : va_G) (cA : Nat → ClassId), jv_K G D cA s := by
  have h1 : ∀ ci : Nat, ∃ z : ClassId × (Nat → Nat), ∀ q : vw_C, (jg_cl G)[ci]? = some q → u_Kn s q.1 q.2.1 q.2.2 z.1 z.2 := by
    intro ci
    cases hq : (jg_cls G)[ci]? with
    | none =>
      refine ⟨(0, fun _ => 0), fun q h => ?_⟩
      simp [jg_cl, hq] at h
    | some w =>
      have hm := List.mem_of_getElem? hq
      obtain ⟨cC, iS, hk⟩ := u_known (C := w.1.1) (T := w.1.2.1) (N := w.1.2.2) (n := w.1.2.2) hts (hG.2.2.2.1 w hm).1 (hts _ (hI w hm))
      refine ⟨(cC, iS), fun q h => ?_⟩
      rw [jg_cl_at hq] at h
      cases h
      exact hk
  obtain ⟨f, hf⟩ := Classical.axiomOfChoice h1
  have h2 : ∀ t : Nat, ∃ c : ClassId, ∀ q : FieldType × Nat, (jg_tys G)[t]? = some q → ArrOfT s c q.1 ∧ va_RA s c q.1 := by
    intro t
    by_cases ht : 2 ≤ t
    · by_cases hl : t < (jg_tys G).length
      · obtain ⟨C, ci, w, hty, -, -⟩ := jg_tyO hG ht hl
        obtain ⟨comp, cA, kA, g1, g2, g3, g4, g5⟩ := Cond.arrayOver_spec (hov t C ci hty)
        refine ⟨cA, fun q h => ?_⟩
        rw [hty] at h
        cases h
        exact ⟨fun n z => ⟨fun k h => (by cases h), kA, g3, comp, g4⟩, kA, comp, g3, g4, g1, g5⟩
      · refine ⟨0, fun q h => ?_⟩
        rw [List.getElem?_eq_none (by omega)] at h
        cases h
    · have h01 : t = 0 ∨ t = 1 := by omega
      rcases h01 with rfl | rfl
      · obtain ⟨cA, kA, comp, g1, g2, g3⟩ := Cond.arrayClass_spec (hts _ hG.2.2.2.2.2.2.2.2.2.2.2.2.1)
        refine ⟨cA, fun q h => ?_⟩
        rw [hG.2.2.2.2.2.2.2.2.2.2.1] at h
        cases h
        exact ⟨fun n z => ⟨fun k h => (by cases h), kA, g2, comp, g3⟩, g1⟩
      · obtain ⟨cA, kA, comp, g1, g2, g3⟩ := Cond.arrayClass_spec (hts _ hG.2.2.2.2.2.2.2.2.2.2.2.2.2.1)
        refine ⟨cA, fun q h => ?_⟩
        rw [hG.2.2.2.2.2.2.2.2.2.2.2.1] at h
        cases h
        exact ⟨fun n z => ⟨fun k h => (by cases h), kA, g2, comp, g3⟩, g1⟩
  obtain ⟨cA, hcA⟩ := Classical.axiomOfChoice h2
  refine ⟨(fun ci => (f ci).1, fun ci => (f ci).2), cA, ⟨fun ci q h => hf ci q h, fun k q h => ?_⟩, fun w hw => ?_, fun t C ci h => hov t C ci h⟩
  · by_cases hk : k < (jg_tys G).length
    · rw [jv_tyl_at (List.getElem?_eq_getElem hk)] at h
      cases h
      exact hcA k _ (List.getElem?_eq_getElem hk)
    · simp [jv_tyl, hk] at h
  · have hz := hnw w hw
    rcases hG.2.1 w hw with ⟨a, i, b, n, d, k, rfl⟩ | ⟨a, i, x, k, rfl⟩
    · exact va_Nw.of rfl hz
    · exact va_Nw.of rfl hz
end
section
/-! ===== rules: what the small machine does at an instruction ===== -/
noncomputable def jl (G : jv_G) (X : Nat × (Nat → Int32)) (d mi pc : Nat) (L : jv_L) (S : List Value) (h : jv_H) : Option jv_R := jv_lim G X (jv_F G X d) mi (pc, L, S, h)
/-- is it a reference or null; null or not; the same or not -/
def jv_isr (v : Value) : Bool := match v with
  | .null => true
  | .ref _ => true
  | _ => false
def jv_nl {α : Type} (v : Value) (A B : Option α) : Option α := match v with
  | .null => A
  | .ref _ => B
  | _ => none
def jv_ac {α : Type} (v w : Value) (A B : Option α) : Option α := match jv_rv v, jv_rv w with
  | some x, some y => if x = y then A else B
  | _, _ => none
theorem jv_isr_rf (o : Option Nat) : jv_isr (va_rf o) = true := by cases o <;> rfl
theorem jv_rv_rf (o : Option Nat) : jv_rv (va_rf o) = some o := by cases o <;> rfl
theorem jv_isr_ref (a : Nat) : jv_isr (.ref a) = true := rfl
theorem jv_isr_null : jv_isr .null = true := rfl
theorem jv_nl_ref {α : Type} (a : Nat) (A B : Option α) : jv_nl (.ref a) A B = B := rfl
theorem jv_nl_null {α : Type} (A B : Option α) : jv_nl .null A B = A := rfl
theorem jv_nl_rf {α : Type} (o : Option Nat) (A B : Option α) : jv_nl (va_rf o) A B = if o = none then A else B := by cases o <;> rfl
theorem va_rf_some (a : Nat) : va_rf (some a) = .ref a := rfl
theorem va_rf_none : va_rf none = .null := rfl
section JRules
variable {G : jv_G} {X : Nat × (Nat → Int32)} {d mi pc : Nat} {L : jv_L} {S : List Value} {h : jv_H}
theorem jl_ins {ins : Jvm.ClassFile.Instr} {len : Nat} (hd : decode (jg_code G mi) pc = .ok (ins, len)) : jl G X d mi pc L S h = match jv_ins G X (jv_F G X d) mi pc L S h ins len with
    | none => none
    | some (.inl r) => some r
    | some (.inr st) => jl G X d mi st.1 st.2.1 st.2.2.1 st.2.2.2 := by
  unfold jl
  rw [jv_lim_eq]
  unfold jv_one
  simp only [hd]
  rfl
theorem jl_go {ins : Jvm.ClassFile.Instr} {len pc' : Nat} {L' : jv_L} {S' : List Value} {h' : jv_H} (hd : decode (jg_code G mi) pc = .ok (ins, len)) (q : jv_ins G X (jv_F G X d) mi pc L S h ins len = some (.inr (pc', L', S', h'))) : jl G X d mi pc L S h = jl G X d mi pc' L' S' h' := by
  rw [jl_ins hd, q]
theorem jl_end {ins : Jvm.ClassFile.Instr} {len : Nat} {r : jv_R} (hd : decode (jg_code G mi) pc = .ok (ins, len)) (q : jv_ins G X (jv_F G X d) mi pc L S h ins len = some (.inl r)) : jl G X d mi pc L S h = some r := by
  rw [jl_ins hd, q]
theorem jr_iconst {n : Int} {v : Int32} (hd : decode (jg_code G mi) pc = .ok (.iconst n, 1)) (hv : Int32.ofInt n = v) : jl G X d mi pc L S h = jl G X d mi (pc + 1) L (.int v :: S) h := by subst hv; exact jl_go hd rfl
theorem jr_bipush {n : Int} {v : Int32} (hd : decode (jg_code G mi) pc = .ok (.bipush n, 2)) (hv : (Int8.ofInt n).toInt32 = v) : jl G X d mi pc L S h = jl G X d mi (pc + 2) L (.int v :: S) h := by subst hv; exact jl_go hd rfl
theorem jr_sipush {n : Int} {v : Int32} (hd : decode (jg_code G mi) pc = .ok (.sipush n, 3)) (hv : (Int16.ofInt n).toInt32 = v) : jl G X d mi pc L S h = jl G X d mi (pc + 3) L (.int v :: S) h := by subst hv; exact jl_go hd rfl
theorem jr_ldc {i : Nat} {v : Int32} (hd : decode (jg_code G mi) pc = .ok (.ldc i, 2)) (hv : jg_ldc G mi i = some v) : jl G X d mi pc L S h = jl G X d mi (pc + 2) L (.int v :: S) h := jl_go hd (by simp [jv_ins, hv, jv_go])
theorem jr_ldcw {i : Nat} {v : Int32} (hd : decode (jg_code G mi) pc = .ok (.ldc_w i, 3)) (hv : jg_ldc G mi i = some v) : jl G X d mi pc L S h = jl G X d mi (pc + 3) L (.int v :: S) h := jl_go hd (by simp [jv_ins, hv, jv_go])
theorem jr_ldc2 {i : Nat} {v : Int64} (hd : decode (jg_code G mi) pc = .ok (.ldc2_w i, 3)) (hv : jg_ldl G mi i = some v) : jl G X d mi pc L S h = jl G X d mi (pc + 3) L (.long v :: S) h := jl_go hd (by simp [jv_ins, hv, jv_go])
theorem jr_null (hd : decode (jg_code G mi) pc = .ok (.aconst_null, 1)) : jl G X d mi pc L S h = jl G X d mi (pc + 1) L (.null :: S) h := jl_go hd rfl
theorem jr_iload_n {k : Fin 4} {x : Int32} (hd : decode (jg_code G mi) pc = .ok (.iload_n k, 1)) (hl : jv_ld L k.val = some (.int x)) : jl G X d mi pc L S h = jl G X d mi (pc + 1) L (.int x :: S) h := jl_go hd (by simp [jv_ins, jv_pi, hl, jv_go])
theorem jr_iload {k : Nat} {x : Int32} (hd : decode (jg_code G mi) pc = .ok (.iload k, 2)) (hl : jv_ld L k = some (.int x)) : jl G X d mi pc L S h = jl G X d mi (pc + 2) L (.int x :: S) h := jl_go hd (by simp [jv_ins, jv_pi, hl, jv_go])
theorem jv_pa_of {k : Nat} {v : Value} (hl : jv_ld L k = some v) : jv_pa L S k = if jv_isr v = true then some (v :: S) else none := by
  unfold jv_pa
  rw [hl]
  cases v <;> rfl
theorem jr_aload_n {k : Fin 4} {v : Value} (hd : decode (jg_code G mi) pc = .ok (.aload_n k, 1)) (hl : jv_ld L k.val = some v) : jl G X d mi pc L S h = if jv_isr v = true then jl G X d mi (pc + 1) L (v :: S) h else none := by
  rw [jl_ins hd]
  simp only [jv_ins, if_true, jv_pa_of hl]
  cases jv_isr v <;> simp [jv_go]
theorem jr_aload {k : Nat} {v : Value} (hd : decode (jg_code G mi) pc = .ok (.aload k, 2)) (hl : jv_ld L k = some v) : jl G X d mi pc L S h = if jv_isr v = true then jl G X d mi (pc + 2) L (v :: S) h else none := by
  rw [jl_ins hd]
  simp only [jv_ins, if_true, jv_pa_of hl]
  cases jv_isr v <;> simp [jv_go]
theorem jr_istore_n {k : Fin 4} {x : Int32} (hd : decode (jg_code G mi) pc = .ok (.istore_n k, 1)) (hl : k.val < L.length) : jl G X d mi pc L (.int x :: S) h = jl G X d mi (pc + 1) (L.set k.val (some (.int x))) S h := jl_go hd (by simp [jv_ins, jv_si, hl, jv_gol])
theorem jr_istore {k : Nat} {x : Int32} (hd : decode (jg_code G mi) pc = .ok (.istore k, 2)) (hl : k < L.length) : jl G X d mi pc L (.int x :: S) h = jl G X d mi (pc + 2) (L.set k (some (.int x))) S h := jl_go hd (by simp [jv_ins, jv_si, hl, jv_gol])
theorem jv_sa_of {k : Nat} {v : Value} (hl : k < L.length) : jv_sa L (v :: S) k = if jv_isr v = true then some (L.set k (some v), S) else none := by
  unfold jv_sa
  cases v <;> simp [jv_isr, hl]
theorem jr_astore_n {k : Fin 4} {v : Value} (hd : decode (jg_code G mi) pc = .ok (.astore_n k, 1)) (hl : k.val < L.length) : jl G X d mi pc L (v :: S) h = if jv_isr v = true then jl G X d mi (pc + 1) (L.set k.val (some v)) S h else none := by
  rw [jl_ins hd]
  simp only [jv_ins, if_true, jv_sa_of hl]
  cases jv_isr v <;> simp [jv_gol]
theorem jr_astore {k : Nat} {v : Value} (hd : decode (jg_code G mi) pc = .ok (.astore k, 2)) (hl : k < L.length) : jl G X d mi pc L (v :: S) h = if jv_isr v = true then jl G X d mi (pc + 2) (L.set k (some v)) S h else none := by
  rw [jl_ins hd]
  simp only [jv_ins, if_true, jv_sa_of hl]
  cases jv_isr v <;> simp [jv_gol]
theorem jr_iinc {k : Nat} {n : Int} {x v : Int32} (hd : decode (jg_code G mi) pc = .ok (.iinc k n, 3)) (hl : jv_ld L k = some (.int x)) (hv : Int32.ofInt n = v) : jl G X d mi pc L S h = jl G X d mi (pc + 3) (L.set k (some (.int (x + v)))) S h := by subst hv; exact jl_go hd (by simp [jv_ins, hl])
theorem jr_iadd {x y : Int32} (hd : decode (jg_code G mi) pc = .ok (.iadd, 1)) : jl G X d mi pc L (.int y :: .int x :: S) h = jl G X d mi (pc + 1) L (.int (x + y) :: S) h := jl_go hd rfl
theorem jr_isub {x y : Int32} (hd : decode (jg_code G mi) pc = .ok (.isub, 1)) : jl G X d mi pc L (.int y :: .int x :: S) h = jl G X d mi (pc + 1) L (.int (x - y) :: S) h := jl_go hd rfl
theorem jr_imul {x y : Int32} (hd : decode (jg_code G mi) pc = .ok (.imul, 1)) : jl G X d mi pc L (.int y :: .int x :: S) h = jl G X d mi (pc + 1) L (.int (x * y) :: S) h := jl_go hd rfl
theorem jr_iand {x y : Int32} (hd : decode (jg_code G mi) pc = .ok (.iand, 1)) : jl G X d mi pc L (.int y :: .int x :: S) h = jl G X d mi (pc + 1) L (.int (x &&& y) :: S) h := jl_go hd rfl
theorem jr_ior {x y : Int32} (hd : decode (jg_code G mi) pc = .ok (.ior, 1)) : jl G X d mi pc L (.int y :: .int x :: S) h = jl G X d mi (pc + 1) L (.int (x ||| y) :: S) h := jl_go hd rfl
theorem jr_ishl {x y : Int32} (hd : decode (jg_code G mi) pc = .ok (.ishl, 1)) : jl G X d mi pc L (.int y :: .int x :: S) h = jl G X d mi (pc + 1) L (.int (x <<< (y &&& 31)) :: S) h := jl_go hd rfl
theorem jr_ishr {x y : Int32} (hd : decode (jg_code G mi) pc = .ok (.ishr, 1)) : jl G X d mi pc L (.int y :: .int x :: S) h = jl G X d mi (pc + 1) L (.int (x >>> (y &&& 31)) :: S) h := jl_go hd rfl
theorem jr_iushr {x y : Int32} (hd : decode (jg_code G mi) pc = .ok (.iushr, 1)) : jl G X d mi pc L (.int y :: .int x :: S) h = jl G X d mi (pc + 1) L (.int (jv_ush x y) :: S) h := jl_go hd rfl
theorem jr_idiv {x y : Int32} (hd : decode (jg_code G mi) pc = .ok (.idiv, 1)) : jl G X d mi pc L (.int y :: .int x :: S) h = if y = 0 then none else jl G X d mi (pc + 1) L (.int (x / y) :: S) h := by
  rw [jl_ins hd]
  by_cases hy : y = 0 <;> simp [jv_ins, jv_dv, hy, jv_go]
theorem jr_irem {x y : Int32} (hd : decode (jg_code G mi) pc = .ok (.irem, 1)) : jl G X d mi pc L (.int y :: .int x :: S) h = if y = 0 then none else jl G X d mi (pc + 1) L (.int (x - x / y * y) :: S) h := by
  rw [jl_ins hd]
  by_cases hy : y = 0 <;> simp [jv_ins, jv_dv, hy, jv_go]
theorem jr_ineg {x : Int32} (hd : decode (jg_code G mi) pc = .ok (.ineg, 1)) : jl G X d mi pc L (.int x :: S) h = jl G X d mi (pc + 1) L (.int (-x) :: S) h := jl_go hd rfl
theorem jr_i2l {x : Int32} (hd : decode (jg_code G mi) pc = .ok (.i2l, 1)) : jl G X d mi pc L (.int x :: S) h = jl G X d mi (pc + 1) L (.long x.toInt64 :: S) h := jl_go hd rfl
theorem jr_lcmp {x y : Int64} (hd : decode (jg_code G mi) pc = .ok (.lcmp, 1)) : jl G X d mi pc L (.long y :: .long x :: S) h = jl G X d mi (pc + 1) L (.int (lg_cmp x y) :: S) h := jl_go hd rfl
theorem jr_dup {v : Value} (hd : decode (jg_code G mi) pc = .ok (.dup, 1)) : jl G X d mi pc L (v :: S) h = if jv_cat1 v = true then jl G X d mi (pc + 1) L (v :: v :: S) h else none := by
  rw [jl_ins hd]
  cases hv : jv_cat1 v <;> simp [jv_ins, jv_dup, hv, jv_go]
theorem jr_pop {v : Value} (hd : decode (jg_code G mi) pc = .ok (.pop, 1)) : jl G X d mi pc L (v :: S) h = if jv_cat1 v = true then jl G X d mi (pc + 1) L S h else none := by
  rw [jl_ins hd]
  cases hv : jv_cat1 v <;> simp [jv_ins, jv_pop, hv, jv_go]
theorem jr_dup_x1 {v w : Value} (hd : decode (jg_code G mi) pc = .ok (.dup_x1, 1)) : jl G X d mi pc L (v :: w :: S) h = if (jv_cat1 v && jv_cat1 w) = true then jl G X d mi (pc + 1) L (v :: w :: v :: S) h else none := by
  rw [jl_ins hd]
  cases hv : jv_cat1 v <;> cases hw : jv_cat1 w <;> simp [jv_ins, jv_dupx1, hv, hw, jv_go]
theorem jr_dup_x2 {v w u : Value} (hd : decode (jg_code G mi) pc = .ok (.dup_x2, 1)) : jl G X d mi pc L (v :: w :: u :: S) h = if (jv_cat1 v && jv_cat1 w && jv_cat1 u) = true then jl G X d mi (pc + 1) L (v :: w :: u :: v :: S) h else none := by
  rw [jl_ins hd]
  cases hv : jv_cat1 v <;> cases hw : jv_cat1 w <;> cases hu : jv_cat1 u <;> simp [jv_ins, jv_dupx2, hv, hw, hu, jv_go]
theorem jr_dup2 {v w : Value} (hd : decode (jg_code G mi) pc = .ok (.dup2, 1)) : jl G X d mi pc L (v :: w :: S) h = if (jv_cat1 v && jv_cat1 w) = true then jl G X d mi (pc + 1) L (v :: w :: v :: w :: S) h else none := by
  rw [jl_ins hd]
  cases hv : jv_cat1 v <;> cases hw : jv_cat1 w <;> simp [jv_ins, jv_dup2, hv, hw, jv_go]
theorem jv_br_of {b : Bool} {off : Int} {tgt : Nat} (ht : (pc : Int) + off = (tgt : Int)) : jv_br b pc off L S h = some (.inr (if b = true then tgt else pc + 3, L, S, h)) := by
  unfold jv_br
  rw [ht, if_pos (Int.natCast_nonneg tgt), Int.toNat_natCast]
theorem jr_brk {b : Bool} {tgt : Nat} : jl G X d mi (if b = true then tgt else pc + 3) L S h = if b = true then jl G X d mi tgt L S h else jl G X d mi (pc + 3) L S h := by cases b <;> rfl
theorem jr_if {c : Jvm.ClassFile.Cond} {off : Int} {tgt : Nat} {x : Int32} (hd : decode (jg_code G mi) pc = .ok (.ifCond c off, 3)) (ht : (pc : Int) + off = (tgt : Int)) : jl G X d mi pc L (.int x :: S) h = if jv_c2 c x 0 = true then jl G X d mi tgt L S h else jl G X d mi (pc + 3) L S h := by
  rw [jl_ins hd]
  simp only [jv_ins, if_true, jv_sIf, jv_br_of ht]
  exact jr_brk
theorem jr_icmp {c : Jvm.ClassFile.Cond} {off : Int} {tgt : Nat} {x y : Int32} (hd : decode (jg_code G mi) pc = .ok (.if_icmp c off, 3)) (ht : (pc : Int) + off = (tgt : Int)) : jl G X d mi pc L (.int y :: .int x :: S) h = if jv_c2 c x y = true then jl G X d mi tgt L S h else jl G X d mi (pc + 3) L S h := by
  rw [jl_ins hd]
  simp only [jv_ins, if_true, jv_sIcmp, jv_br_of ht]
  exact jr_brk
theorem jr_ifnull {off : Int} {tgt : Nat} {v : Value} (hd : decode (jg_code G mi) pc = .ok (.ifnull off, 3)) (ht : (pc : Int) + off = (tgt : Int)) : jl G X d mi pc L (v :: S) h = jv_nl v (jl G X d mi tgt L S h) (jl G X d mi (pc + 3) L S h) := by
  rw [jl_ins hd]
  simp only [jv_ins, if_true, jv_sNull]
  cases v <;> simp [jv_br_of ht, jv_nl]
theorem jr_ifnonnull {off : Int} {tgt : Nat} {v : Value} (hd : decode (jg_code G mi) pc = .ok (.ifnonnull off, 3)) (ht : (pc : Int) + off = (tgt : Int)) : jl G X d mi pc L (v :: S) h = jv_nl v (jl G X d mi (pc + 3) L S h) (jl G X d mi tgt L S h) := by
  rw [jl_ins hd]
  simp only [jv_ins, if_true, jv_sNonn]
  cases v <;> simp [jv_br_of ht, jv_nl]
theorem jr_acmp_eq {off : Int} {tgt : Nat} {v w : Value} (hd : decode (jg_code G mi) pc = .ok (.if_acmp .eq off, 3)) (ht : (pc : Int) + off = (tgt : Int)) : jl G X d mi pc L (w :: v :: S) h = jv_ac v w (jl G X d mi tgt L S h) (jl G X d mi (pc + 3) L S h) := by
  rw [jl_ins hd]
  simp only [jv_ins, if_true, jv_sAcmp, jv_ac]
  cases hv : jv_rv v with
  | none => rfl
  | some x =>
    cases hw : jv_rv w with
    | none => rfl
    | some y => by_cases hxy : x = y <;> simp [jv_br_of ht, hxy]
theorem jr_acmp_ne {off : Int} {tgt : Nat} {v w : Value} (hd : decode (jg_code G mi) pc = .ok (.if_acmp .ne off, 3)) (ht : (pc : Int) + off = (tgt : Int)) : jl G X d mi pc L (w :: v :: S) h = jv_ac v w (jl G X d mi (pc + 3) L S h) (jl G X d mi tgt L S h) := by
  rw [jl_ins hd]
  simp only [jv_ins, if_true, jv_sAcmp, jv_ac]
  cases hv : jv_rv v with
  | none => rfl
  | some x =>
    cases hw : jv_rv w with
    | none => rfl
    | some y => by_cases hxy : x = y <;> simp [jv_br_of ht, hxy]
theorem jv_jmp_of {off : Int} {tgt : Nat} (ht : (pc : Int) + off = (tgt : Int)) : jv_jmp pc off L S h = some (.inr (tgt, L, S, h)) := by
  unfold jv_jmp
  rw [ht, if_pos (Int.natCast_nonneg tgt), Int.toNat_natCast]
theorem jr_goto {off : Int} {tgt : Nat} (hd : decode (jg_code G mi) pc = .ok (.goto off, 3)) (ht : (pc : Int) + off = (tgt : Int)) : jl G X d mi pc L S h = jl G X d mi tgt L S h := jl_go hd (by simp only [jv_ins, if_true]; exact jv_jmp_of ht)
theorem jr_get {i ci k : Nat} {a : Nat} (hd : decode (jg_code G mi) pc = .ok (.getfield i, 3)) (hf : jg_fld G mi i = some (ci, k)) : jl G X d mi pc L (.ref a :: S) h = (jv_get h a ci k).bind (fun v => jl G X d mi (pc + 3) L (v :: S) h) := by
  rw [jl_ins hd]
  simp only [jv_ins, if_true, hf, jv_sGet]
  cases jv_get h a ci k <;> rfl
theorem jr_put {i ci k : Nat} {a : Nat} {v : Value} (hd : decode (jg_code G mi) pc = .ok (.putfield i, 3)) (hf : jg_fld G mi i = some (ci, k)) : jl G X d mi pc L (v :: .ref a :: S) h = if jv_fty G mi ci k v = true then (jv_put h a ci k v).bind (fun h' => jl G X d mi (pc + 3) L S h') else none := by
  rw [jl_ins hd]
  simp only [jv_ins, if_true, hf, jv_sPut]
  cases jv_fty G mi ci k v
  · rfl
  · cases jv_put h a ci k v <;> rfl
theorem jr_len {a : Nat} (hd : decode (jg_code G mi) pc = .ok (.arraylength, 1)) : jl G X d mi pc L (.ref a :: S) h = (jv_len G X h a).bind (fun v => jl G X d mi (pc + 1) L (.int v :: S) h) := by
  rw [jl_ins hd]
  simp only [jv_ins, if_true, jv_alen]
  cases jv_len G X h a <;> rfl
/-- an int of an array, or of the script -/
def jv_rdi (X : Nat × (Nat → Int32)) (h : jv_H) (a : Nat) (i : Int32) : Option Int32 := match a with
  | 0 => if jv_out i X.1 = false then some (X.2 i.toNatClampNeg) else none
  | a + 1 => jv_ald h 0 (a + 1) i
theorem jr_iald {a : Nat} {i : Int32} (hd : decode (jg_code G mi) pc = .ok (.iaload, 1)) : jl G X d mi pc L (.int i :: .ref a :: S) h = (jv_rdi X h a i).bind (fun v => jl G X d mi (pc + 1) L (.int v :: S) h) := by
  rw [jl_ins hd]
  simp only [jv_ins, if_true]
  cases a with
  | zero =>
    simp only [jv_sIalo, jv_rdi]
    cases jv_out i X.1 <;> simp [jv_go]
  | succ a =>
    simp only [jv_sIalo, jv_rdi]
    cases jv_ald h 0 (a + 1) i <;> rfl
theorem jr_bald {a : Nat} {i : Int32} (hd : decode (jg_code G mi) pc = .ok (.baload, 1)) : jl G X d mi pc L (.int i :: .ref a :: S) h = (jv_ald h 1 a i).bind (fun v => jl G X d mi (pc + 1) L (.int v :: S) h) := by
  rw [jl_ins hd]
  simp only [jv_ins, if_true, jv_sBalo]
  cases jv_ald h 1 a i <;> rfl
theorem jr_aald {a : Nat} {i : Int32} (hd : decode (jg_code G mi) pc = .ok (.aaload, 1)) : jl G X d mi pc L (.int i :: .ref a :: S) h = (jv_rld G h a i).bind (fun v => jl G X d mi (pc + 1) L (va_rf v :: S) h) := by
  rw [jl_ins hd]
  simp only [jv_ins, if_true, jv_sAalo]
  cases jv_rld G h a i <;> rfl
theorem jr_iast {a : Nat} {i x : Int32} (hd : decode (jg_code G mi) pc = .ok (.iastore, 1)) : jl G X d mi pc L (.int x :: .int i :: .ref a :: S) h = (jv_ast h 0 a i x).bind (fun h' => jl G X d mi (pc + 1) L S h') := by
  rw [jl_ins hd]
  simp only [jv_ins, if_true, jv_sIast]
  cases jv_ast h 0 a i x <;> rfl
theorem jr_bast {a : Nat} {i x : Int32} (hd : decode (jg_code G mi) pc = .ok (.bastore, 1)) : jl G X d mi pc L (.int x :: .int i :: .ref a :: S) h = if x = 0 ∨ x = 1 then (jv_ast h 1 a i x).bind (fun h' => jl G X d mi (pc + 1) L S h') else none := by
  rw [jl_ins hd]
  simp only [jv_ins, if_true, jv_sBast]
  by_cases hx : x = 0 ∨ x = 1
  · rw [if_pos hx, if_pos hx]
    cases jv_ast h 1 a i x <;> rfl
  · rw [if_neg hx, if_neg hx]
theorem jr_aast {a : Nat} {i : Int32} {v : Value} (hd : decode (jg_code G mi) pc = .ok (.aastore, 1)) : jl G X d mi pc L (v :: .int i :: .ref a :: S) h = (jv_rv v).bind (fun o => (jv_rst G h a i o).bind (fun h' => jl G X d mi (pc + 1) L S h')) := by
  rw [jl_ins hd]
  simp only [jv_ins, if_true, jv_sAast]
  cases v <;> simp only [jv_rv, Option.bind_none, Option.bind_some]
  · cases jv_rst G h a i none <;> rfl
  · rename_i a2
    cases jv_rst G h a i (some a2) <;> rfl
theorem jr_newi {n : Int32} (hd : decode (jg_code G mi) pc = .ok (.newarray .int, 2)) : jl G X d mi pc L (.int n :: S) h = (jv_newi h 0 n).bind (fun h' => jl G X d mi (pc + 2) L (.ref (h.1 + 1) :: S) h') := by
  rw [jl_ins hd]
  simp only [jv_ins, if_true, jv_sNewi]
  cases jv_newi h 0 n <;> rfl
theorem jr_newz {n : Int32} (hd : decode (jg_code G mi) pc = .ok (.newarray .boolean, 2)) : jl G X d mi pc L (.int n :: S) h = (jv_newi h 1 n).bind (fun h' => jl G X d mi (pc + 2) L (.ref (h.1 + 1) :: S) h') := by
  rw [jl_ins hd]
  simp only [jv_ins, if_true, jv_sNewi]
  cases jv_newi h 1 n <;> rfl
theorem jr_newr {i t : Nat} {n : Int32} (hd : decode (jg_code G mi) pc = .ok (.anewarray i, 3)) (ht : jg_anw G mi i = some t) : jl G X d mi pc L (.int n :: S) h = (jv_newr h t n).bind (fun h' => jl G X d mi (pc + 3) L (.ref (h.1 + 1) :: S) h') := by
  rw [jl_ins hd]
  simp only [jv_ins, if_true, ht, jv_sNewr]
  cases jv_newr h t n <;> rfl
theorem jr_new {i ci : Nat} (hd : decode (jg_code G mi) pc = .ok (.new i, 3)) (ht : jg_new G mi i = some ci) : jl G X d mi pc L S h = (jv_newo G h ci).bind (fun h' => jl G X d mi (pc + 3) L (.ref (h.1 + 1) :: S) h') := by
  rw [jl_ins hd]
  simp only [jv_ins, if_true, ht, jv_sNew]
  cases jv_newo G h ci <;> rfl
theorem jr_objInit {i y n a : Nat} (hd : decode (jg_code G mi) pc = .ok (.invokespecial i, 3)) (hi : jg_inv G mi i = some (3, y, n)) (hc : jv_cats S ≤ 8) : jl G X d mi pc L (.ref a :: S) h = jl G X d mi (pc + 3) L S h := jl_go hd (by simp [jv_ins, hi, jv_c0, hc])
theorem jr_cS {i y n : Nat} {as rest : List Value} (hd : decode (jg_code G mi) pc = .ok (.invokestatic i, 3)) (hi : jg_inv G mi i = some (1, y, n)) (hn : as.length = n) (hc : jv_cats rest ≤ 8) : jl G X d mi pc L (as.reverse ++ rest) h = (jv_F G X d y as h).bind (fun q => jl G X d mi (pc + 3) L (q.1.toList ++ rest) q.2) := by
  subst hn
  rw [jl_ins hd]
  have h1 : (as.reverse ++ rest).drop as.length = rest := by rw [← List.length_reverse, List.drop_left]
  have h2 : ((as.reverse ++ rest).take as.length).reverse = as := by rw [← List.length_reverse, List.take_left, List.reverse_reverse]
  have h3 : as.length ≤ (as.reverse ++ rest).length := by simp
  simp only [jv_ins, if_true, hi, jv_cS, h1, h2, h3, hc, and_self]
  cases jv_F G X d y as h <;> rfl
theorem jr_cI {i y n a : Nat} {as rest : List Value} (hd : decode (jg_code G mi) pc = .ok (.invokespecial i, 3)) (hi : jg_inv G mi i = some (2, y, n)) (hn : as.length = n) (hc : jv_cats rest ≤ 8) : jl G X d mi pc L (as.reverse ++ .ref a :: rest) h = (jv_F G X d y (.ref a :: as) h).bind (fun q => jl G X d mi (pc + 3) L (q.1.toList ++ rest) q.2) := by
  subst hn
  rw [jl_ins hd]
  have h1 : (as.reverse ++ .ref a :: rest).drop as.length = .ref a :: rest := by rw [← List.length_reverse, List.drop_left]
  have h2 : ((as.reverse ++ .ref a :: rest).take as.length).reverse = as := by rw [← List.length_reverse, List.take_left, List.reverse_reverse]
  simp only [jv_ins, if_true, hi, jv_cI, h1, h2, hc]
  cases jv_F G X d y (.ref a :: as) h <;> rfl
theorem jr_cV {i y n a : Nat} {as rest : List Value} (hd : decode (jg_code G mi) pc = .ok (.invokevirtual i, 3)) (hi : jg_inv G mi i = some (0, y, n)) (hn : as.length = n) (hc : jv_cats rest ≤ 8) : jl G X d mi pc L (as.reverse ++ .ref a :: rest) h = if jv_isC h (jg_mc G y) (some a) = true then (jv_F G X d y (.ref a :: as) h).bind (fun q => jl G X d mi (pc + 3) L (q.1.toList ++ rest) q.2) else none := by
  subst hn
  rw [jl_ins hd]
  have h1 : (as.reverse ++ .ref a :: rest).drop as.length = .ref a :: rest := by rw [← List.length_reverse, List.drop_left]
  have h2 : ((as.reverse ++ .ref a :: rest).take as.length).reverse = as := by rw [← List.length_reverse, List.take_left, List.reverse_reverse]
  simp only [jv_ins, if_true, hi, jv_cV, h1, h2, hc, true_and]
  cases jv_isC h (jg_mc G y) (some a)
  · rfl
  · cases jv_F G X d y (.ref a :: as) h <;> rfl
theorem jr_ireti {v : Int32} (hd : decode (jg_code G mi) pc = .ok (.ireturn, 1)) (hr : jg_ret G mi = some .int) : jl G X d mi pc L [.int v] h = some (some (.int v), h) := jl_end hd (by simp [jv_ins, hr, jv_iret])
theorem jr_iretz {v : Int32} (hd : decode (jg_code G mi) pc = .ok (.ireturn, 1)) (hr : jg_ret G mi = some .boolean) : jl G X d mi pc L [.int v] h = if v = 0 ∨ v = 1 then some (some (.int v), h) else none := by
  rw [jl_ins hd]
  simp only [jv_ins, if_true, hr, jv_iret]
  by_cases hv : v = 0 ∨ v = 1 <;> simp [hv]
theorem jr_lret {v : Int64} (hd : decode (jg_code G mi) pc = .ok (.lreturn, 1)) (hr : jg_ret G mi = some .long) : jl G X d mi pc L [.long v] h = some (some (.long v), h) := jl_end hd (by simp [jv_ins, hr, jv_lret])
theorem jr_aret {v : Value} {C : String} (hd : decode (jg_code G mi) pc = .ok (.areturn, 1)) (hr : jg_ret G mi = some (.object C)) : jl G X d mi pc L [v] h = if jv_isr v = true then some (some v, h) else none := by
  rw [jl_ins hd]
  simp only [jv_ins, if_true, hr]
  cases v <;> rfl
theorem jr_vret (hd : decode (jg_code G mi) pc = .ok (.return_, 1)) (hr : jg_ret G mi = none) : jl G X d mi pc L [] h = some (none, h) := jl_end hd (by simp [jv_ins, hr, jv_vret])
theorem jr_tab {dflt lo hi : Int} {offs : Array Int} {len : Nat} {x : Int32} (hd : decode (jg_code G mi) pc = .ok (.tableswitch dflt lo hi offs, len)) : jl G X d mi pc L (.int x :: S) h = match jv_sTab dflt lo hi offs pc L (.int x :: S) h with
    | none => none
    | some (.inl r) => some r
    | some (.inr st) => jl G X d mi st.1 st.2.1 st.2.2.1 st.2.2.2 := jl_ins hd
theorem jr_look {dflt : Int} {ps : Array (Int × Int)} {len : Nat} {x : Int32} (hd : decode (jg_code G mi) pc = .ok (.lookupswitch dflt ps, len)) : jl G X d mi pc L (.int x :: S) h = match jv_sLook dflt ps pc L (.int x :: S) h with
    | none => none
    | some (.inl r) => some r
    | some (.inr st) => jl G X d mi st.1 st.2.1 st.2.2.1 st.2.2.2 := jl_ins hd
theorem jr_entry {as : List Value} (hc : as.all jv_cat1 = true) (hn : as.length ≤ jg_maxL G mi) : jv_F G X (d + 1) mi as h = jl G X d mi 0 (as.map some ++ List.replicate (jg_maxL G mi - as.length) none) [] h := by
  show (if as.all jv_cat1 = true ∧ as.length ≤ jg_maxL G mi then _ else none) = _
  rw [if_pos ⟨hc, hn⟩]
  rfl
end JRules
end
section
/-! ===== THE PROGRAM as the small machine reads it: printed by a program out of the claim (methods, fields, calls; behind each the place of its word in lw_tbl) ===== -/
def gT0 : u_T := fun k => match k with
  | 0 => ("GrainHost", "kinds", "[LGrainHost$Kind;", true)
  | 1 => ("GrainHost", "grains", "[LGrainHost$Grain;", true)
  | 2 => ("GrainHost", "outsides", "[LGrainHost$Outside;", true)
  | 3 => ("GrainHost", "requests", "LGrainHost$Requests;", true)
  | 4 => ("GrainHost", "queue", "LGrainHost$Line;", true)
  | 5 => ("GrainHost", "toSettle", "[LGrainHost$Grain;", true)
  | 6 => ("GrainHost", "byNumber", "[LGrainHost$Request;", true)
  | 7 => ("GrainHost", "outsideCalls", "I", false)
  | 8 => ("GrainHost", "clock", "I", false)
  | 9 => ("GrainHost", "limit", "I", false)
  | 10 => ("GrainHost", "age", "I", false)
  | 11 => ("GrainHost", "storeFails", "I", false)
  | 12 => ("GrainHost", "turns", "I", false)
  | _ => ("GrainHost", "arrivals", "I", false)
def gY0 : Nat → FieldType := fun k => match k with
  | 0 => (.array (.object "GrainHost$Kind"))
  | 1 => (.array (.object "GrainHost$Grain"))
  | 2 => (.array (.object "GrainHost$Outside"))
  | 3 => (.object "GrainHost$Requests")
  | 4 => (.object "GrainHost$Line")
  | 5 => (.array (.object "GrainHost$Grain"))
  | 6 => (.array (.object "GrainHost$Request"))
  | 7 => .int
  | 8 => .int
  | 9 => .int
  | 10 => .int
  | 11 => .int
  | 12 => .int
  | _ => .int
def gT1 : u_T := fun k => match k with
  | 0 => ("GrainHost$Kind", "methods", "[LGrainHost$Method;", true)
  | 1 => ("GrainHost$Kind", "reentrant", "Z", false)
  | _ => ("GrainHost$Kind", "kept", "Z", false)
def gY1 : Nat → FieldType := fun k => match k with
  | 0 => (.array (.object "GrainHost$Method"))
  | 1 => .boolean
  | _ => .boolean
def gT2 : u_T := fun k => match k with
  | 0 => ("GrainHost$Method", "ops", "[I", true)
  | 1 => ("GrainHost$Method", "as", "[I", true)
  | 2 => ("GrainHost$Method", "bs", "[I", true)
  | 3 => ("GrainHost$Method", "size", "I", false)
  | 4 => ("GrainHost$Method", "open", "Z", false)
  | _ => ("GrainHost$Method", "reading", "Z", false)
def gY2 : Nat → FieldType := fun k => match k with
  | 0 => (.array .int)
  | 1 => (.array .int)
  | 2 => (.array .int)
  | 3 => .int
  | 4 => .boolean
  | _ => .boolean
def gT3 : u_T := fun k => match k with
  | 0 => ("GrainHost$Grain", "number", "I", true)
  | 1 => ("GrainHost$Grain", "kind", "LGrainHost$Kind;", true)
  | 2 => ("GrainHost$Grain", "phase", "I", false)
  | 3 => ("GrainHost$Grain", "leaving", "Z", false)
  | 4 => ("GrainHost$Grain", "state", "I", false)
  | 5 => ("GrainHost$Grain", "timer", "I", false)
  | 6 => ("GrainHost$Grain", "idle", "I", false)
  | 7 => ("GrainHost$Grain", "reminder", "I", false)
  | 8 => ("GrainHost$Grain", "toReminder", "I", false)
  | 9 => ("GrainHost$Grain", "stored", "I", false)
  | _ => ("GrainHost$Grain", "timesStored", "I", false)
def gY3 : Nat → FieldType := fun k => match k with
  | 0 => .int
  | 1 => (.object "GrainHost$Kind")
  | 2 => .int
  | 3 => .boolean
  | 4 => .int
  | 5 => .int
  | 6 => .int
  | 7 => .int
  | 8 => .int
  | 9 => .int
  | _ => .int
def gT4 : u_T := fun k => match k with
  | 0 => ("GrainHost$Request", "number", "I", false)
  | 1 => ("GrainHost$Request", "grain", "LGrainHost$Grain;", false)
  | 2 => ("GrainHost$Request", "methodNumber", "I", false)
  | 3 => ("GrainHost$Request", "method", "LGrainHost$Method;", false)
  | 4 => ("GrainHost$Request", "arg", "I", false)
  | 5 => ("GrainHost$Request", "phase", "I", false)
  | 6 => ("GrainHost$Request", "\x72", "I", false)
  | 7 => ("GrainHost$Request", "next", "I", false)
  | 8 => ("GrainHost$Request", "chain", "I", false)
  | 9 => ("GrainHost$Request", "comesBack", "Z", false)
  | 10 => ("GrainHost$Request", "caller", "LGrainHost$Request;", false)
  | 11 => ("GrainHost$Request", "outside", "LGrainHost$Outside;", false)
  | 12 => ("GrainHost$Request", "awaited", "LGrainHost$Request;", false)
  | _ => ("GrainHost$Request", "awaitTicks", "I", false)
def gY4 : Nat → FieldType := fun k => match k with
  | 0 => .int
  | 1 => (.object "GrainHost$Grain")
  | 2 => .int
  | 3 => (.object "GrainHost$Method")
  | 4 => .int
  | 5 => .int
  | 6 => .int
  | 7 => .int
  | 8 => .int
  | 9 => .boolean
  | 10 => (.object "GrainHost$Request")
  | 11 => (.object "GrainHost$Outside")
  | 12 => (.object "GrainHost$Request")
  | _ => .int
def gT5 : u_T := fun k => match k with
  | 0 => ("GrainHost$Requests", "rows", "[LGrainHost$Request;", true)
  | 1 => ("GrainHost$Requests", "size", "I", false)
  | _ => ("GrainHost$Requests", "made", "I", false)
def gY5 : Nat → FieldType := fun k => match k with
  | 0 => (.array (.object "GrainHost$Request"))
  | 1 => .int
  | _ => .int
def gT6 : u_T := fun k => match k with
  | 0 => ("GrainHost$Line", "entries", "[I", true)
  | 1 => ("GrainHost$Line", "first", "I", false)
  | _ => ("GrainHost$Line", "size", "I", false)
def gY6 : Nat → FieldType := fun k => match k with
  | 0 => (.array .int)
  | 1 => .int
  | _ => .int
def gT7 : u_T := fun k => match k with
  | 0 => ("GrainHost$Outside", "phase", "I", false)
  | 1 => ("GrainHost$Outside", "value", "I", false)
  | 2 => ("GrainHost$Outside", "number", "I", false)
  | _ => ("GrainHost$Outside", "ticks", "I", false)
def gY7 : Nat → FieldType := fun k => match k with
  | 0 => .int
  | 1 => .int
  | 2 => .int
  | _ => .int
def gT8 : u_T := fun k => match k with
  | 0 => ("GrainHostModel", "reentrant", "[Z", true)
  | 1 => ("GrainHostModel", "kept", "[Z", true)
  | 2 => ("GrainHostModel", "open", "[Z", true)
  | 3 => ("GrainHostModel", "reading", "[Z", true)
  | 4 => ("GrainHostModel", "length", "[I", true)
  | 5 => ("GrainHostModel", "ops", "[I", true)
  | 6 => ("GrainHostModel", "as", "[I", true)
  | 7 => ("GrainHostModel", "bs", "[I", true)
  | 8 => ("GrainHostModel", "status", "[I", true)
  | 9 => ("GrainHostModel", "value", "[I", true)
  | 10 => ("GrainHostModel", "timer", "[I", true)
  | 11 => ("GrainHostModel", "idle", "[I", true)
  | 12 => ("GrainHostModel", "store", "[I", true)
  | 13 => ("GrainHostModel", "stored", "[I", true)
  | 14 => ("GrainHostModel", "due", "[I", true)
  | 15 => ("GrainHostModel", "every", "[I", true)
  | 16 => ("GrainHostModel", "leaving", "[Z", true)
  | 17 => ("GrainHostModel", "number", "[I", true)
  | 18 => ("GrainHostModel", "where", "[I", true)
  | 19 => ("GrainHostModel", "method", "[I", true)
  | 20 => ("GrainHostModel", "arg", "[I", true)
  | 21 => ("GrainHostModel", "own", "[I", true)
  | 22 => ("GrainHostModel", "at", "[I", true)
  | 23 => ("GrainHostModel", "stands", "[I", true)
  | 24 => ("GrainHostModel", "awaits", "[I", true)
  | 25 => ("GrainHostModel", "ticks", "[I", true)
  | 26 => ("GrainHostModel", "caller", "[I", true)
  | 27 => ("GrainHostModel", "from", "[I", true)
  | 28 => ("GrainHostModel", "requests", "I", false)
  | 29 => ("GrainHostModel", "made", "I", false)
  | 30 => ("GrainHostModel", "line", "[I", true)
  | 31 => ("GrainHostModel", "waiting", "I", false)
  | 32 => ("GrainHostModel", "outStatus", "[I", true)
  | 33 => ("GrainHostModel", "outValue", "[I", true)
  | 34 => ("GrainHostModel", "outRequest", "[I", true)
  | 35 => ("GrainHostModel", "outTicks", "[I", true)
  | 36 => ("GrainHostModel", "outs", "I", false)
  | 37 => ("GrainHostModel", "limit", "I", false)
  | 38 => ("GrainHostModel", "age", "I", false)
  | 39 => ("GrainHostModel", "clock", "I", false)
  | 40 => ("GrainHostModel", "turns", "I", false)
  | 41 => ("GrainHostModel", "came", "I", false)
  | 42 => ("GrainHostModel", "broken", "I", false)
  | 43 => ("GrainHostModel", "behind", "[I", true)
  | 44 => ("GrainHostModel", "told", "I", false)
  | _ => ("GrainHostModel", "last", "I", false)
def gY8 : Nat → FieldType := fun k => match k with
  | 0 => (.array .boolean)
  | 1 => (.array .boolean)
  | 2 => (.array .boolean)
  | 3 => (.array .boolean)
  | 4 => (.array .int)
  | 5 => (.array .int)
  | 6 => (.array .int)
  | 7 => (.array .int)
  | 8 => (.array .int)
  | 9 => (.array .int)
  | 10 => (.array .int)
  | 11 => (.array .int)
  | 12 => (.array .int)
  | 13 => (.array .int)
  | 14 => (.array .int)
  | 15 => (.array .int)
  | 16 => (.array .boolean)
  | 17 => (.array .int)
  | 18 => (.array .int)
  | 19 => (.array .int)
  | 20 => (.array .int)
  | 21 => (.array .int)
  | 22 => (.array .int)
  | 23 => (.array .int)
  | 24 => (.array .int)
  | 25 => (.array .int)
  | 26 => (.array .int)
  | 27 => (.array .int)
  | 28 => .int
  | 29 => .int
  | 30 => (.array .int)
  | 31 => .int
  | 32 => (.array .int)
  | 33 => (.array .int)
  | 34 => (.array .int)
  | 35 => (.array .int)
  | 36 => .int
  | 37 => .int
  | 38 => .int
  | 39 => .int
  | 40 => .int
  | 41 => .int
  | 42 => .int
  | 43 => (.array .int)
  | 44 => .int
  | _ => .int
def gw_cls : List (vw_C × (Nat → FieldType)) := [(("GrainHost", gT0, 14), gY0), (("GrainHost$Kind", gT1, 3), gY1), (("GrainHost$Method", gT2, 6), gY2), (("GrainHost$Grain", gT3, 11), gY3), (("GrainHost$Request", gT4, 14), gY4), (("GrainHost$Requests", gT5, 3), gY5), (("GrainHost$Line", gT6, 3), gY6), (("GrainHost$Outside", gT7, 4), gY7), (("GrainHostModel", gT8, 46), gY8)]
def gw_tys : List (FieldType × Nat) := [(.int, 999), (.boolean, 999), (.object "GrainHost$Kind", 1), (.object "GrainHost$Grain", 3), (.object "GrainHost$Outside", 7), (.object "GrainHost$Request", 4), (.object "GrainHost$Method", 2)]
def gw_ms : List jv_M := [
  (⟨"GrainHost", "<init>", "()V"⟩, prog_1_method_1_code, 2, none, 0, 3, 61),
  (⟨"GrainHost$Requests", "<init>", "()V"⟩, prog_8_method_1_code, 2, none, 5, 2, 40),
  (⟨"GrainHost$Request", "<init>", "()V"⟩, prog_7_method_1_code, 1, none, 4, 1, 20),
  (⟨"GrainHost$Line", "<init>", "()V"⟩, prog_4_method_1_code, 1, none, 6, 1, 20),
  (⟨"GrainHost$Kind", "<init>", "()V"⟩, prog_3_method_1_code, 2, none, 1, 2, 40),
  (⟨"GrainHost$Method", "<init>", "()V"⟩, prog_5_method_1_code, 1, none, 2, 1, 20),
  (⟨"GrainHost$Grain", "<init>", "(ILGrainHost$Kind;)V"⟩, prog_2_method_1_code, 3, none, 3, 1, 20),
  (⟨"GrainHost$Outside", "<init>", "()V"⟩, prog_6_method_1_code, 1, none, 7, 1, 20),
  (⟨"GrainHost", "kind", "(IZZ)Z"⟩, prog_1_method_2_code, 4, (some .boolean), 0, 1, 22),
  (⟨"GrainHost", "isWithin", "(III)Z"⟩, prog_1_method_17_code, 3, (some .boolean), 0, 0, 0),
  (⟨"GrainHost", "method", "(IIZZ)I"⟩, prog_1_method_3_code, 7, (some .int), 0, 2, 43),
  (⟨"GrainHost", "isMethod", "(II)Z"⟩, prog_1_method_18_code, 2, (some .boolean), 0, 1, 22),
  (⟨"GrainHost", "step", "(IIIII)I"⟩, prog_1_method_4_code, 7, (some .int), 0, 2, 44),
  (⟨"GrainHost", "isStep", "(III)Z"⟩, prog_1_method_19_code, 3, (some .boolean), 0, 1, 22),
  (⟨"GrainHost$Method", "add", "(III)V"⟩, prog_5_method_2_code, 4, none, 2, 0, 0),
  (⟨"GrainHost", "limits", "(II)Z"⟩, prog_1_method_5_code, 3, (some .boolean), 0, 1, 22),
  (⟨"GrainHost", "fails", "(I)I"⟩, prog_1_method_6_code, 3, (some .int), 0, 1, 22),
  (⟨"GrainHost", "call", "(III)I"⟩, prog_1_method_7_code, 6, (some .int), 0, 4, 96),
  (⟨"GrainHost$Requests", "isFull", "()Z"⟩, prog_8_method_2_code, 1, (some .boolean), 5, 0, 0),
  (⟨"GrainHost", "make", "(LGrainHost$Grain;III)LGrainHost$Request;"⟩, prog_1_method_21_code, 6, (some (.object "GrainHost$Request")), 0, 3, 71),
  (⟨"GrainHost$Requests", "add", "(LGrainHost$Grain;III)LGrainHost$Request;"⟩, prog_8_method_3_code, 6, (some (.object "GrainHost$Request")), 5, 2, 46),
  (⟨"GrainHost$Request", "begin", "(ILGrainHost$Grain;III)V"⟩, prog_7_method_2_code, 7, none, 4, 1, 20),
  (⟨"GrainHost$Request", "awaitNothing", "()V"⟩, prog_7_method_4_code, 1, none, 4, 0, 0),
  (⟨"GrainHost$Line", "add", "(I)V"⟩, prog_4_method_2_code, 2, none, 6, 0, 0),
  (⟨"GrainHost", "lookAt", "(LGrainHost$Grain;)V"⟩, prog_1_method_22_code, 4, none, 0, 1, 25),
  (⟨"GrainHost$Requests", "mayBegin", "(LGrainHost$Request;)Z"⟩, prog_8_method_10_code, 6, (some .boolean), 5, 0, 0),
  (⟨"GrainHost$Outside", "open", "(I)V"⟩, prog_6_method_2_code, 2, none, 7, 0, 0),
  (⟨"GrainHost", "forget", "()I"⟩, prog_1_method_8_code, 2, (some .int), 0, 0, 0),
  (⟨"GrainHost", "run", "(I)I"⟩, prog_1_method_9_code, 4, (some .int), 0, 7, 170),
  (⟨"GrainHost$Line", "take", "()I"⟩, prog_4_method_3_code, 2, (some .int), 6, 0, 0),
  (⟨"GrainHost", "arrive", "(LGrainHost$Grain;)V"⟩, prog_1_method_23_code, 2, none, 0, 6, 133),
  (⟨"GrainHost", "storeWorks", "()Z"⟩, prog_1_method_36_code, 1, (some .boolean), 0, 0, 0),
  (⟨"GrainHost$Grain", "vanish", "()V"⟩, prog_2_method_3_code, 1, none, 3, 0, 0),
  (⟨"GrainHost", "failWaiting", "(LGrainHost$Grain;)V"⟩, prog_1_method_24_code, 5, none, 0, 5, 109),
  (⟨"GrainHost", "copyByNumber", "()I"⟩, prog_1_method_25_code, 2, (some .int), 0, 0, 0),
  (⟨"GrainHost", "end", "(LGrainHost$Request;II)V"⟩, prog_1_method_30_code, 7, none, 0, 4, 83),
  (⟨"GrainHost$Requests", "remove", "(LGrainHost$Request;)V"⟩, prog_8_method_4_code, 4, none, 5, 0, 0),
  (⟨"GrainHost", "tellCaller", "(LGrainHost$Request;II)LGrainHost$Request;"⟩, prog_1_method_31_code, 5, (some (.object "GrainHost$Request")), 0, 2, 44),
  (⟨"GrainHost", "goOn", "(LGrainHost$Request;II)Z"⟩, prog_1_method_32_code, 4, (some .boolean), 0, 1, 21),
  (⟨"GrainHost$Request", "catches", "(I)Z"⟩, prog_7_method_5_code, 2, (some .boolean), 4, 0, 0),
  (⟨"GrainHost$Outside", "tell", "(II)V"⟩, prog_6_method_3_code, 3, none, 7, 0, 0),
  (⟨"GrainHost", "settle", "(LGrainHost$Grain;)V"⟩, prog_1_method_33_code, 2, none, 0, 3, 62),
  (⟨"GrainHost$Requests", "noneAt", "(LGrainHost$Grain;)Z"⟩, prog_8_method_9_code, 3, (some .boolean), 5, 0, 0),
  (⟨"GrainHost", "go", "(LGrainHost$Grain;)V"⟩, prog_1_method_34_code, 2, none, 0, 2, 41),
  (⟨"GrainHost", "store", "(LGrainHost$Grain;)Z"⟩, prog_1_method_35_code, 2, (some .boolean), 0, 1, 20),
  (⟨"GrainHost$Grain", "come", "()V"⟩, prog_2_method_2_code, 1, none, 3, 1, 20),
  (⟨"GrainHost$Requests", "find", "(I)LGrainHost$Request;"⟩, prog_8_method_6_code, 3, (some (.object "GrainHost$Request")), 5, 0, 0),
  (⟨"GrainHost", "doSteps", "(LGrainHost$Request;)V"⟩, prog_1_method_26_code, 6, none, 0, 6, 145),
  (⟨"GrainHost", "doStep", "(LGrainHost$Request;III)I"⟩, prog_1_method_27_code, 6, (some .int), 0, 5, 120),
  (⟨"GrainHost", "sendCall", "(LGrainHost$Request;LGrainHost$Grain;I)I"⟩, prog_1_method_28_code, 5, (some .int), 0, 4, 96),
  (⟨"GrainHost$Request", "await", "(LGrainHost$Request;)V"⟩, prog_7_method_3_code, 2, none, 4, 0, 0),
  (⟨"GrainHost", "sendTell", "(LGrainHost$Request;LGrainHost$Grain;I)I"⟩, prog_1_method_29_code, 4, (some .int), 0, 4, 96),
  (⟨"GrainHost$Grain", "remindEach", "(I)V"⟩, prog_2_method_4_code, 2, none, 3, 0, 0),
  (⟨"GrainHost", "tick", "(I)I"⟩, prog_1_method_10_code, 3, (some .int), 0, 6, 140),
  (⟨"GrainHost", "ringTimers", "()V"⟩, prog_1_method_37_code, 3, none, 0, 5, 118),
  (⟨"GrainHost", "wake", "(LGrainHost$Grain;I)V"⟩, prog_1_method_39_code, 3, none, 0, 4, 96),
  (⟨"GrainHost", "ringReminders", "()V"⟩, prog_1_method_38_code, 3, none, 0, 5, 118),
  (⟨"GrainHost", "endLateAwaits", "()V"⟩, prog_1_method_41_code, 4, none, 0, 5, 109),
  (⟨"GrainHost", "isLate", "(I)Z"⟩, prog_1_method_40_code, 2, (some .boolean), 0, 0, 0),
  (⟨"GrainHost", "goOnLate", "(LGrainHost$Request;)Z"⟩, prog_1_method_42_code, 2, (some .boolean), 0, 2, 44),
  (⟨"GrainHost", "endLateOutsides", "()V"⟩, prog_1_method_43_code, 3, none, 0, 2, 44),
  (⟨"GrainHost", "endOutside", "(LGrainHost$Outside;)V"⟩, prog_1_method_44_code, 3, none, 0, 1, 22),
  (⟨"GrainHost", "dropIdleGrains", "()V"⟩, prog_1_method_45_code, 3, none, 0, 3, 62),
  (⟨"GrainHost", "restart", "()I"⟩, prog_1_method_11_code, 3, (some .int), 0, 1, 22),
  (⟨"GrainHost$Requests", "clear", "()V"⟩, prog_8_method_5_code, 2, none, 5, 0, 0),
  (⟨"GrainHost$Line", "clear", "()V"⟩, prog_4_method_5_code, 1, none, 6, 0, 0),
  (⟨"GrainHost", "ask", "(II)J"⟩, prog_1_method_12_code, 4, (some .long), 0, 1, 22),
  (⟨"GrainHost", "grain", "(II)I"⟩, prog_1_method_13_code, 4, (some .int), 0, 1, 23),
  (⟨"GrainHost$Requests", "begunAt", "(LGrainHost$Grain;)I"⟩, prog_8_method_7_code, 4, (some .int), 5, 0, 0),
  (⟨"GrainHost$Requests", "waitingAt", "(LGrainHost$Grain;)I"⟩, prog_8_method_8_code, 4, (some .int), 5, 0, 0),
  (⟨"GrainHost", "request", "(II)I"⟩, prog_1_method_14_code, 4, (some .int), 0, 1, 22),
  (⟨"java/lang/Integer", "bitCount", "(I)I"⟩, prog_11_method_49_code, 1, (some .int), 998, 0, 0),
  (⟨"GrainHost", "line", "(I)I"⟩, prog_1_method_15_code, 2, (some .int), 0, 1, 22),
  (⟨"GrainHost$Line", "at", "(I)I"⟩, prog_4_method_4_code, 2, (some .int), 6, 0, 0),
  (⟨"GrainHost", "count", "(I)I"⟩, prog_1_method_16_code, 2, (some .int), 0, 1, 22),
  (⟨"GrainHost", "grainsHere", "()I"⟩, prog_1_method_20_code, 3, (some .int), 0, 0, 0),
  (⟨"GrainHostModel", "<init>", "()V"⟩, prog_10_method_1_code, 1, none, 8, 1, 20),
  (⟨"GrainHostModel", "kind", "(IZZ)Z"⟩, prog_10_method_3_code, 4, (some .boolean), 8, 1, 21),
  (⟨"GrainHostModel", "in", "(II)Z"⟩, prog_10_method_2_code, 2, (some .boolean), 8, 0, 0),
  (⟨"GrainHostModel", "method", "(IIZZ)I"⟩, prog_10_method_4_code, 6, (some .int), 8, 1, 21),
  (⟨"GrainHostModel", "step", "(IIIII)I"⟩, prog_10_method_5_code, 9, (some .int), 8, 1, 21),
  (⟨"GrainHostModel", "limits", "(II)Z"⟩, prog_10_method_6_code, 3, (some .boolean), 8, 1, 21),
  (⟨"GrainHostModel", "fails", "(I)I"⟩, prog_10_method_7_code, 3, (some .int), 8, 1, 21),
  (⟨"GrainHostModel", "run", "(I)I"⟩, prog_10_method_25_code, 5, (some .int), 8, 5, 124),
  (⟨"GrainHostModel", "come", "(I)V"⟩, prog_10_method_23_code, 4, none, 8, 3, 75),
  (⟨"GrainHostModel", "works", "()Z"⟩, prog_10_method_8_code, 1, (some .boolean), 8, 0, 0),
  (⟨"GrainHostModel", "leave", "(I)V"⟩, prog_10_method_22_code, 2, none, 8, 0, 0),
  (⟨"GrainHostModel", "look", "(I)V"⟩, prog_10_method_13_code, 5, none, 8, 1, 24),
  (⟨"GrainHostModel", "many", "(II)I"⟩, prog_10_method_10_code, 5, (some .int), 8, 0, 0),
  (⟨"GrainHostModel", "allRead", "(I)Z"⟩, prog_10_method_11_code, 3, (some .boolean), 8, 0, 0),
  (⟨"GrainHostModel", "queue", "(I)V"⟩, prog_10_method_12_code, 2, none, 8, 0, 0),
  (⟨"GrainHostModel", "firstAt", "(I)I"⟩, prog_10_method_24_code, 3, (some .int), 8, 0, 0),
  (⟨"GrainHostModel", "over", "(III)V"⟩, prog_10_method_18_code, 8, none, 8, 2, 48),
  (⟨"GrainHostModel", "remove", "(I)V"⟩, prog_10_method_15_code, 3, none, 8, 0, 0),
  (⟨"GrainHostModel", "find", "(I)I"⟩, prog_10_method_9_code, 3, (some .int), 8, 0, 0),
  (⟨"GrainHostModel", "resume", "(III)Z"⟩, prog_10_method_17_code, 4, (some .boolean), 8, 1, 22),
  (⟨"GrainHostModel", "isCatch", "(I)Z"⟩, prog_10_method_16_code, 3, (some .boolean), 8, 0, 0),
  (⟨"GrainHostModel", "isEmpty", "(I)Z"⟩, prog_10_method_19_code, 2, (some .boolean), 8, 1, 24),
  (⟨"GrainHostModel", "go", "(I)V"⟩, prog_10_method_20_code, 2, none, 8, 1, 21),
  (⟨"GrainHostModel", "save", "(I)V"⟩, prog_10_method_21_code, 2, none, 8, 0, 0),
  (⟨"GrainHostModel", "act", "(I)Z"⟩, prog_10_method_26_code, 7, (some .boolean), 8, 4, 98),
  (⟨"GrainHostModel", "invoke", "(III)Z"⟩, prog_10_method_27_code, 4, (some .boolean), 8, 3, 75),
  (⟨"GrainHostModel", "make", "(IIIII)V"⟩, prog_10_method_14_code, 7, none, 8, 2, 48),
  (⟨"GrainHostModel", "tick", "(I)I"⟩, prog_10_method_28_code, 4, (some .int), 8, 4, 97),
  (⟨"GrainHostModel", "late", "()V"⟩, prog_10_method_30_code, 3, none, 8, 3, 75),
  (⟨"GrainHostModel", "behindOf", "(I)I"⟩, prog_10_method_29_code, 3, (some .int), 8, 0, 0),
  (⟨"GrainHostModel", "rest", "(I)V"⟩, prog_10_method_31_code, 2, none, 8, 2, 45),
  (⟨"GrainHostModel", "call", "(III)I"⟩, prog_10_method_32_code, 4, (some .int), 8, 3, 74),
  (⟨"GrainHostModel", "forget", "()I"⟩, prog_10_method_33_code, 2, (some .int), 8, 0, 0),
  (⟨"GrainHostModel", "restart", "()I"⟩, prog_10_method_34_code, 3, (some .int), 8, 1, 21),
  (⟨"GrainHostModel", "ask", "(II)J"⟩, prog_10_method_35_code, 3, (some .long), 8, 1, 21),
  (⟨"GrainHostModel", "grain", "(II)I"⟩, prog_10_method_36_code, 3, (some .int), 8, 1, 24),
  (⟨"GrainHostModel", "request", "(II)I"⟩, prog_10_method_38_code, 3, (some .int), 8, 1, 22),
  (⟨"GrainHostModel", "bits", "(I)I"⟩, prog_10_method_37_code, 3, (some .int), 8, 0, 0),
  (⟨"GrainHostModel", "line", "(I)I"⟩, prog_10_method_39_code, 2, (some .int), 8, 1, 21),
  (⟨"GrainHostModel", "count", "(I)I"⟩, prog_10_method_40_code, 4, (some .int), 8, 0, 0),
  (x, code, 4, ret, 998, 8, 193)]
def gw_dm : jv_M := (⟨"", "", ""⟩, ⟨#[]⟩, 0, none, 998, 0, 0)
def gw_m (i : Nat) : jv_M := gw_ms.getD i gw_dm
def gw_mp : List (Nat × Nat × Nat × Nat) := [(86, 72, 85, 0), (100, 73, 99, 0), (107, 74, 106, 0), (187, 75, 186, 0), (205, 76, 204, 0), (212, 77, 211, 0), (258, 78, 257, 0), (310, 79, 309, 0), (375, 72, 373, 374), (378, 72, 377, 0), (382, 72, 380, 381), (385, 72, 384, 0), (389, 72, 387, 388), (392, 72, 391, 0), (396, 77, 395, 0), (400, 72, 398, 399), (404, 72, 402, 403), (408, 72, 406, 407), (412, 73, 411, 1), (416, 72, 415, 2), (420, 73, 419, 3), (424, 74, 423, 4), (428, 74, 427, 5), (432, 75, 431, 6), (436, 72, 435, 7), (440, 73, 439, 8), (444, 79, 443, 9), (448, 72, 446, 447), (452, 72, 450, 451), (456, 75, 455, 10), (460, 72, 459, 11), (464, 72, 463, 12), (468, 78, 467, 13), (472, 72, 471, 14), (476, 72, 475, 15), (480, 72, 479, 16), (484, 73, 483, 17), (488, 72, 487, 18), (492, 72, 491, 19), (497, 74, 496, 20), (501, 79, 500, 21), (505, 72, 504, 22), (509, 73, 508, 23), (513, 72, 512, 24), (517, 72, 516, 25), (521, 78, 520, 26), (526, 73, 525, 27), (530, 72, 529, 28), (534, 72, 533, 29), (538, 72, 537, 30), (542, 74, 541, 31), (546, 72, 545, 32), (550, 78, 549, 33), (554, 72, 552, 553), (558, 72, 557, 34), (562, 72, 561, 35), (566, 72, 565, 36), (570, 72, 569, 37), (574, 72, 573, 38), (578, 72, 577, 39), (582, 72, 581, 40), (586, 72, 585, 41), (590, 72, 589, 42), (594, 72, 592, 593), (598, 73, 597, 43), (602, 75, 601, 44), (606, 72, 604, 605), (611, 72, 609, 610), (615, 73, 614, 45), (619, 73, 618, 46), (623, 72, 621, 622), (626, 81, 625, 0), (633, 72, 631, 632), (637, 75, 636, 47), (641, 72, 639, 640), (645, 72, 644, 48), (650, 80, 649, 0), (795, 80, 793, 794), (798, 80, 797, 0), (802, 80, 800, 801), (806, 80, 804, 805), (810, 80, 808, 809), (814, 80, 812, 813), (818, 80, 816, 817), (822, 80, 821, 49), (826, 80, 825, 50), (830, 80, 829, 51), (834, 80, 833, 52), (838, 80, 837, 53), (842, 80, 841, 54), (846, 80, 845, 55), (850, 80, 849, 56), (854, 80, 853, 57), (858, 80, 857, 58), (862, 80, 861, 59), (866, 80, 865, 60), (870, 80, 869, 61), (874, 80, 873, 62), (878, 80, 877, 63), (882, 80, 881, 64), (886, 80, 885, 65), (890, 80, 889, 66), (894, 80, 893, 67), (898, 80, 896, 897), (902, 80, 901, 68), (906, 80, 905, 69), (910, 80, 909, 70), (914, 80, 912, 913), (918, 80, 916, 917), (922, 80, 920, 921), (926, 80, 924, 925), (931, 80, 929, 930), (935, 80, 933, 934), (938, 80, 937, 0), (942, 80, 940, 941), (946, 80, 944, 945), (0, 0, 0, 0)]
def gw_p (i : Nat) : Nat × Nat × Nat × Nat := gw_mp.getD i (0, 0, 0, 0)
def gw_ft : List ((Nat × Nat) × (Nat × Nat) × Nat) := [((0, 11), (0, 0), 329), ((0, 17), (0, 1), 330), ((0, 23), (0, 2), 331), ((0, 30), (0, 3), 332), ((0, 37), (0, 4), 333), ((0, 41), (0, 5), 334), ((0, 46), (0, 6), 335), ((1, 11), (5, 0), 170), ((2, 11), (4, 5), 122), ((3, 11), (6, 0), 189), ((4, 11), (1, 0), 241), ((5, 9), (2, 0), 214), ((5, 15), (2, 1), 217), ((5, 18), (2, 2), 219), ((6, 7), (3, 0), 260), ((6, 13), (3, 1), 263), ((8, 30), (0, 3), 332), ((8, 59), (5, 1), 173), ((8, 11), (0, 0), 329), ((8, 63), (1, 1), 244), ((8, 67), (1, 2), 247), ((10, 30), (0, 3), 332), ((10, 59), (5, 1), 173), ((10, 11), (0, 0), 329), ((10, 74), (1, 0), 243), ((10, 78), (2, 3), 222), ((10, 81), (2, 4), 224), ((10, 84), (2, 5), 226), ((12, 30), (0, 3), 332), ((12, 59), (5, 1), 173), ((12, 11), (0, 0), 329), ((12, 74), (1, 0), 243), ((12, 78), (2, 3), 222), ((14, 9), (2, 0), 214), ((14, 21), (2, 3), 221), ((14, 15), (2, 1), 217), ((14, 18), (2, 2), 219), ((15, 94), (0, 9), 338), ((15, 97), (0, 10), 339), ((16, 100), (0, 11), 340), ((17, 103), (0, 7), 336), ((17, 30), (0, 3), 332), ((17, 23), (0, 2), 331), ((17, 17), (0, 1), 330), ((17, 114), (4, 11), 136), ((17, 118), (4, 0), 111), ((18, 18), (5, 1), 172), ((19, 30), (0, 3), 332), ((19, 199), (3, 6), 276), ((19, 185), (3, 2), 268), ((19, 37), (0, 4), 333), ((19, 222), (3, 0), 262), ((20, 11), (5, 0), 170), ((20, 18), (5, 1), 172), ((20, 22), (5, 2), 174), ((21, 15), (3, 0), 261), ((21, 20), (4, 0), 109), ((21, 21), (4, 1), 112), ((21, 25), (4, 2), 115), ((21, 28), (3, 1), 264), ((21, 32), (1, 0), 242), ((21, 38), (4, 3), 117), ((21, 42), (4, 4), 120), ((21, 11), (4, 5), 122), ((21, 45), (4, 6), 125), ((21, 48), (4, 7), 127), ((21, 51), (4, 8), 129), ((21, 54), (4, 9), 131), ((21, 58), (4, 10), 133), ((21, 62), (4, 11), 135), ((22, 69), (4, 12), 137), ((22, 72), (4, 13), 139), ((23, 15), (6, 2), 191), ((23, 11), (6, 0), 189), ((23, 19), (6, 1), 190), ((24, 30), (0, 3), 332), ((24, 59), (5, 1), 173), ((24, 214), (5, 0), 171), ((24, 218), (4, 1), 114), ((24, 217), (4, 5), 124), ((24, 37), (0, 4), 333), ((24, 118), (4, 0), 111), ((25, 39), (4, 3), 118), ((25, 35), (4, 1), 113), ((25, 43), (3, 1), 265), ((25, 49), (1, 1), 245), ((25, 55), (2, 4), 225), ((25, 60), (4, 9), 132), ((25, 18), (5, 1), 172), ((25, 11), (5, 0), 170), ((25, 29), (4, 5), 123), ((25, 63), (2, 5), 227), ((26, 11), (7, 0), 312), ((26, 15), (7, 1), 314), ((26, 18), (7, 2), 316), ((26, 21), (7, 3), 318), ((27, 103), (0, 7), 336), ((27, 23), (0, 2), 331), ((27, 124), (7, 0), 313), ((28, 37), (0, 4), 333), ((28, 127), (6, 2), 192), ((28, 17), (0, 1), 330), ((28, 30), (0, 3), 332), ((28, 144), (0, 12), 341), ((29, 11), (6, 0), 189), ((29, 19), (6, 1), 190), ((29, 15), (6, 2), 191), ((30, 274), (3, 1), 266), ((30, 67), (1, 2), 247), ((30, 260), (0, 13), 342), ((31, 100), (0, 11), 340), ((32, 20), (3, 2), 267), ((32, 35), (3, 3), 269), ((32, 32), (3, 4), 271), ((32, 38), (3, 5), 273), ((32, 41), (3, 6), 275), ((33, 46), (0, 6), 335), ((33, 218), (4, 1), 114), ((33, 217), (4, 5), 124), ((34, 30), (0, 3), 332), ((34, 59), (5, 1), 173), ((34, 46), (0, 6), 335), ((34, 214), (5, 0), 171), ((35, 41), (0, 5), 334), ((35, 218), (4, 1), 114), ((35, 30), (0, 3), 332), ((36, 18), (5, 1), 172), ((36, 11), (5, 0), 170), ((36, 29), (4, 5), 123), ((37, 330), (4, 10), 134), ((37, 114), (4, 11), 136), ((38, 229), (4, 6), 126), ((38, 217), (4, 5), 124), ((38, 37), (0, 4), 333), ((38, 118), (4, 0), 111), ((39, 48), (4, 7), 127), ((39, 38), (4, 3), 117), ((39, 75), (2, 3), 223), ((39, 80), (2, 0), 215), ((39, 45), (4, 6), 125), ((40, 11), (7, 0), 312), ((40, 15), (7, 1), 314), ((41, 185), (3, 2), 268), ((41, 182), (3, 3), 270), ((41, 30), (0, 3), 332), ((42, 18), (5, 1), 172), ((42, 11), (5, 0), 170), ((42, 35), (4, 1), 113), ((43, 274), (3, 1), 266), ((43, 67), (1, 2), 247), ((44, 186), (3, 4), 272), ((44, 202), (3, 9), 282), ((44, 205), (3, 10), 283), ((45, 20), (3, 2), 267), ((45, 13), (3, 1), 263), ((45, 23), (1, 2), 246), ((45, 29), (3, 9), 281), ((45, 32), (3, 4), 271), ((46, 18), (5, 1), 172), ((46, 11), (5, 0), 170), ((46, 32), (4, 0), 110), ((47, 294), (4, 3), 119), ((47, 232), (4, 7), 128), ((47, 78), (2, 3), 222), ((47, 298), (2, 0), 216), ((47, 302), (2, 1), 218), ((47, 305), (2, 2), 220), ((47, 218), (4, 1), 114), ((47, 186), (3, 4), 272), ((48, 218), (4, 1), 114), ((48, 186), (3, 4), 272), ((48, 226), (4, 4), 121), ((48, 229), (4, 6), 126), ((48, 17), (0, 1), 330), ((48, 37), (0, 4), 333), ((48, 118), (4, 0), 111), ((48, 196), (3, 5), 274), ((48, 182), (3, 3), 270), ((48, 232), (4, 7), 128), ((49, 30), (0, 3), 332), ((49, 218), (4, 1), 114), ((49, 186), (3, 4), 272), ((49, 242), (4, 8), 130), ((49, 330), (4, 10), 134), ((50, 11), (4, 5), 122), ((50, 69), (4, 12), 137), ((51, 30), (0, 3), 332), ((51, 218), (4, 1), 114), ((51, 186), (3, 4), 272), ((52, 44), (3, 7), 277), ((52, 47), (3, 8), 279), ((53, 147), (0, 8), 337), ((54, 17), (0, 1), 330), ((54, 196), (3, 5), 274), ((55, 30), (0, 3), 332), ((56, 17), (0, 1), 330), ((56, 208), (3, 8), 280), ((56, 211), (3, 7), 278), ((57, 46), (0, 6), 335), ((57, 217), (4, 5), 124), ((57, 239), (4, 13), 140), ((58, 94), (0, 9), 338), ((59, 235), (4, 12), 138), ((59, 330), (4, 10), 134), ((60, 103), (0, 7), 336), ((60, 23), (0, 2), 331), ((60, 124), (7, 0), 313), ((60, 369), (7, 3), 319), ((61, 30), (0, 3), 332), ((61, 181), (7, 2), 317), ((61, 114), (4, 11), 136), ((62, 17), (0, 1), 330), ((62, 185), (3, 2), 268), ((62, 30), (0, 3), 332), ((62, 199), (3, 6), 276), ((62, 97), (0, 10), 339), ((63, 30), (0, 3), 332), ((63, 59), (5, 1), 173), ((63, 37), (0, 4), 333), ((63, 17), (0, 1), 330), ((63, 103), (0, 7), 336), ((63, 23), (0, 2), 331), ((64, 18), (5, 1), 172), ((64, 11), (5, 0), 170), ((64, 29), (4, 5), 123), ((65, 15), (6, 2), 191), ((66, 103), (0, 7), 336), ((66, 23), (0, 2), 331), ((66, 124), (7, 0), 313), ((66, 178), (7, 1), 315), ((66, 181), (7, 2), 317), ((67, 17), (0, 1), 330), ((67, 182), (3, 3), 270), ((67, 185), (3, 2), 268), ((67, 186), (3, 4), 272), ((67, 30), (0, 3), 332), ((67, 196), (3, 5), 274), ((67, 199), (3, 6), 276), ((67, 202), (3, 9), 282), ((67, 205), (3, 10), 283), ((67, 208), (3, 8), 280), ((67, 211), (3, 7), 278), ((68, 18), (5, 1), 172), ((68, 11), (5, 0), 170), ((68, 35), (4, 1), 113), ((68, 29), (4, 5), 123), ((69, 18), (5, 1), 172), ((69, 11), (5, 0), 170), ((69, 35), (4, 1), 113), ((69, 29), (4, 5), 123), ((70, 30), (0, 3), 332), ((70, 59), (5, 1), 173), ((70, 214), (5, 0), 171), ((70, 118), (4, 0), 111), ((70, 217), (4, 5), 124), ((70, 218), (4, 1), 114), ((70, 222), (3, 0), 262), ((70, 223), (4, 2), 116), ((70, 226), (4, 4), 121), ((70, 229), (4, 6), 126), ((70, 232), (4, 7), 128), ((70, 235), (4, 12), 138), ((70, 239), (4, 13), 140), ((70, 242), (4, 8), 130), ((72, 37), (0, 4), 333), ((72, 127), (6, 2), 192), ((73, 11), (6, 0), 189), ((73, 19), (6, 1), 190), ((74, 147), (0, 8), 337), ((74, 30), (0, 3), 332), ((74, 254), (5, 2), 175), ((74, 59), (5, 1), 173), ((74, 144), (0, 12), 341), ((74, 260), (0, 13), 342), ((74, 37), (0, 4), 333), ((74, 127), (6, 2), 192), ((74, 103), (0, 7), 336), ((74, 100), (0, 11), 340), ((75, 17), (0, 1), 330), ((75, 185), (3, 2), 268), ((76, 7), (8, 0), 652), ((76, 13), (8, 1), 653), ((76, 16), (8, 2), 654), ((76, 19), (8, 3), 655), ((76, 22), (8, 4), 656), ((76, 26), (8, 5), 657), ((76, 29), (8, 6), 658), ((76, 32), (8, 7), 659), ((76, 35), (8, 8), 660), ((76, 38), (8, 9), 661), ((76, 41), (8, 10), 662), ((76, 44), (8, 11), 663), ((76, 47), (8, 12), 664), ((76, 50), (8, 13), 665), ((76, 53), (8, 14), 666), ((76, 56), (8, 15), 667), ((76, 59), (8, 16), 668), ((76, 62), (8, 17), 669), ((76, 65), (8, 18), 670), ((76, 68), (8, 19), 671), ((76, 71), (8, 20), 672), ((76, 74), (8, 21), 673), ((76, 77), (8, 22), 674), ((76, 80), (8, 23), 675), ((76, 83), (8, 24), 676), ((76, 86), (8, 25), 677), ((76, 89), (8, 26), 678), ((76, 92), (8, 27), 679), ((76, 95), (8, 30), 682), ((76, 98), (8, 32), 684), ((76, 101), (8, 33), 685), ((76, 104), (8, 34), 686), ((76, 107), (8, 35), 687), ((76, 110), (8, 43), 695), ((77, 117), (8, 28), 680), ((77, 7), (8, 0), 652), ((77, 13), (8, 1), 653), ((79, 117), (8, 28), 680), ((79, 22), (8, 4), 656), ((79, 16), (8, 2), 654), ((79, 19), (8, 3), 655), ((80, 117), (8, 28), 680), ((80, 22), (8, 4), 656), ((80, 26), (8, 5), 657), ((80, 29), (8, 6), 658), ((80, 32), (8, 7), 659), ((81, 121), (8, 37), 689), ((81, 124), (8, 38), 690), ((82, 127), (8, 42), 694), ((83, 130), (8, 31), 683), ((83, 95), (8, 30), 682), ((83, 200), (8, 40), 692), ((84, 13), (8, 1), 653), ((84, 35), (8, 8), 660), ((84, 38), (8, 9), 661), ((84, 47), (8, 12), 664), ((84, 184), (8, 41), 693), ((85, 127), (8, 42), 694), ((86, 35), (8, 8), 660), ((86, 59), (8, 16), 668), ((86, 41), (8, 10), 662), ((86, 38), (8, 9), 661), ((86, 44), (8, 11), 663), ((87, 35), (8, 8), 660), ((87, 117), (8, 28), 680), ((87, 65), (8, 18), 670), ((87, 80), (8, 23), 675), ((87, 68), (8, 19), 671), ((87, 7), (8, 0), 652), ((87, 16), (8, 2), 654), ((87, 19), (8, 3), 655), ((87, 92), (8, 27), 679), ((87, 62), (8, 17), 669), ((88, 117), (8, 28), 680), ((88, 65), (8, 18), 670), ((88, 80), (8, 23), 675), ((89, 117), (8, 28), 680), ((89, 65), (8, 18), 670), ((89, 80), (8, 23), 675), ((89, 19), (8, 3), 655), ((89, 68), (8, 19), 671), ((90, 95), (8, 30), 682), ((90, 130), (8, 31), 683), ((91, 117), (8, 28), 680), ((91, 65), (8, 18), 670), ((92, 154), (8, 44), 696), ((92, 62), (8, 17), 669), ((92, 89), (8, 26), 678), ((92, 110), (8, 43), 695), ((92, 65), (8, 18), 670), ((92, 98), (8, 32), 684), ((92, 101), (8, 33), 685), ((92, 80), (8, 23), 675), ((92, 83), (8, 24), 676), ((92, 35), (8, 8), 660), ((92, 59), (8, 16), 668), ((93, 117), (8, 28), 680), ((93, 62), (8, 17), 669), ((93, 65), (8, 18), 670), ((93, 68), (8, 19), 671), ((93, 71), (8, 20), 672), ((93, 74), (8, 21), 673), ((93, 77), (8, 22), 674), ((93, 80), (8, 23), 675), ((93, 83), (8, 24), 676), ((93, 86), (8, 25), 677), ((93, 89), (8, 26), 678), ((93, 92), (8, 27), 679), ((94, 117), (8, 28), 680), ((94, 62), (8, 17), 669), ((95, 74), (8, 21), 673), ((95, 77), (8, 22), 674), ((95, 80), (8, 23), 675), ((95, 83), (8, 24), 676), ((95, 86), (8, 25), 677), ((95, 62), (8, 17), 669), ((96, 65), (8, 18), 670), ((96, 68), (8, 19), 671), ((96, 77), (8, 22), 674), ((96, 22), (8, 4), 656), ((96, 26), (8, 5), 657), ((98, 13), (8, 1), 653), ((99, 47), (8, 12), 664), ((99, 38), (8, 9), 661), ((99, 50), (8, 13), 665), ((100, 65), (8, 18), 670), ((100, 68), (8, 19), 671), ((100, 77), (8, 22), 674), ((100, 22), (8, 4), 656), ((100, 38), (8, 9), 661), ((100, 26), (8, 5), 657), ((100, 29), (8, 6), 658), ((100, 32), (8, 7), 659), ((100, 71), (8, 20), 672), ((100, 74), (8, 21), 673), ((100, 117), (8, 28), 680), ((100, 62), (8, 17), 669), ((100, 41), (8, 10), 662), ((100, 56), (8, 15), 667), ((100, 53), (8, 14), 666), ((100, 59), (8, 16), 668), ((101, 117), (8, 28), 680), ((101, 74), (8, 21), 673), ((101, 77), (8, 22), 674), ((101, 80), (8, 23), 675), ((101, 83), (8, 24), 676), ((101, 145), (8, 29), 681), ((101, 86), (8, 25), 677), ((101, 38), (8, 9), 661), ((101, 65), (8, 18), 670), ((101, 62), (8, 17), 669), ((101, 92), (8, 27), 679), ((102, 117), (8, 28), 680), ((102, 62), (8, 17), 669), ((102, 145), (8, 29), 681), ((102, 65), (8, 18), 670), ((102, 68), (8, 19), 671), ((102, 71), (8, 20), 672), ((102, 74), (8, 21), 673), ((102, 77), (8, 22), 674), ((102, 80), (8, 23), 675), ((102, 83), (8, 24), 676), ((102, 86), (8, 25), 677), ((102, 89), (8, 26), 678), ((102, 92), (8, 27), 679), ((102, 44), (8, 11), 663), ((102, 35), (8, 8), 660), ((103, 210), (8, 39), 691), ((103, 41), (8, 10), 662), ((103, 117), (8, 28), 680), ((103, 56), (8, 15), 667), ((103, 53), (8, 14), 666), ((104, 62), (8, 17), 669), ((104, 222), (8, 45), 697), ((104, 80), (8, 23), 675), ((104, 86), (8, 25), 677), ((104, 121), (8, 37), 689), ((104, 83), (8, 24), 676), ((104, 89), (8, 26), 678), ((104, 225), (8, 36), 688), ((104, 98), (8, 32), 684), ((104, 107), (8, 35), 687), ((104, 101), (8, 33), 685), ((104, 104), (8, 34), 686), ((105, 117), (8, 28), 680), ((105, 62), (8, 17), 669), ((106, 35), (8, 8), 660), ((106, 44), (8, 11), 663), ((106, 124), (8, 38), 690), ((107, 225), (8, 36), 688), ((107, 117), (8, 28), 680), ((107, 98), (8, 32), 684), ((107, 101), (8, 33), 685), ((107, 107), (8, 35), 687), ((107, 104), (8, 34), 686), ((107, 145), (8, 29), 681), ((108, 225), (8, 36), 688), ((108, 98), (8, 32), 684), ((109, 117), (8, 28), 680), ((109, 130), (8, 31), 683), ((109, 225), (8, 36), 688), ((109, 98), (8, 32), 684), ((109, 101), (8, 33), 685), ((110, 225), (8, 36), 688), ((110, 98), (8, 32), 684), ((110, 101), (8, 33), 685), ((110, 104), (8, 34), 686), ((111, 35), (8, 8), 660), ((111, 59), (8, 16), 668), ((111, 38), (8, 9), 661), ((111, 41), (8, 10), 662), ((111, 44), (8, 11), 663), ((111, 47), (8, 12), 664), ((111, 50), (8, 13), 665), ((111, 56), (8, 15), 667), ((111, 53), (8, 14), 666), ((112, 117), (8, 28), 680), ((112, 62), (8, 17), 669), ((112, 80), (8, 23), 675), ((112, 65), (8, 18), 670), ((112, 68), (8, 19), 671), ((112, 71), (8, 20), 672), ((112, 74), (8, 21), 673), ((112, 77), (8, 22), 674), ((112, 83), (8, 24), 676), ((112, 86), (8, 25), 677), ((112, 92), (8, 27), 679), ((114, 130), (8, 31), 683), ((114, 95), (8, 30), 682), ((115, 35), (8, 8), 660), ((115, 210), (8, 39), 691), ((115, 145), (8, 29), 681), ((115, 117), (8, 28), 680), ((115, 200), (8, 40), 692), ((115, 184), (8, 41), 693), ((115, 130), (8, 31), 683), ((115, 225), (8, 36), 688), ((115, 127), (8, 42), 694)]
def gw_it : List ((Nat × Nat) × (Nat × Nat × Nat) × Nat) := [((0, 3), (3, 0, 0), 87), ((0, 29), (2, 1, 0), 98), ((0, 36), (2, 3, 0), 185), ((0, 50), (2, 4, 0), 203), ((0, 51), (2, 6, 2), 256), ((0, 54), (2, 7, 0), 308), ((1, 3), (3, 0, 0), 101), ((1, 17), (2, 2, 0), 105), ((2, 3), (3, 0, 0), 108), ((3, 3), (3, 0, 0), 188), ((4, 3), (3, 0, 0), 206), ((4, 17), (2, 5, 0), 210), ((5, 3), (3, 0, 0), 213), ((6, 1), (3, 0, 0), 259), ((7, 3), (3, 0, 0), 311), ((8, 55), (1, 9, 3), 376), ((10, 70), (1, 11, 2), 383), ((11, 55), (1, 9, 3), 376), ((12, 70), (1, 11, 2), 383), ((12, 87), (1, 13, 3), 390), ((12, 90), (0, 14, 3), 393), ((13, 55), (1, 9, 3), 376), ((15, 55), (1, 9, 3), 376), ((16, 55), (1, 9, 3), 376), ((17, 55), (1, 9, 3), 376), ((17, 106), (0, 18, 0), 409), ((17, 110), (0, 19, 4), 413), ((17, 121), (0, 26, 1), 441), ((19, 263), (0, 20, 4), 417), ((19, 265), (0, 23, 1), 429), ((19, 267), (0, 24, 1), 433), ((20, 25), (0, 21, 5), 421), ((21, 66), (0, 22, 0), 425), ((24, 270), (0, 25, 1), 437), ((24, 265), (0, 23, 1), 429), ((28, 55), (1, 9, 3), 376), ((28, 128), (0, 29, 0), 453), ((28, 132), (0, 30, 1), 457), ((28, 136), (0, 46, 1), 523), ((28, 140), (0, 47, 1), 527), ((30, 278), (0, 31, 0), 461), ((30, 169), (0, 32, 0), 465), ((30, 281), (0, 33, 1), 469), ((30, 284), (0, 45, 0), 518), ((30, 267), (0, 24, 1), 433), ((33, 287), (0, 34, 0), 473), ((33, 290), (0, 35, 3), 477), ((35, 336), (0, 36, 1), 481), ((35, 339), (0, 37, 3), 485), ((35, 343), (0, 41, 1), 502), ((37, 346), (0, 38, 3), 489), ((37, 172), (0, 40, 2), 498), ((38, 350), (0, 22, 0), 493), ((38, 326), (0, 39, 1), 494), ((38, 265), (0, 23, 1), 429), ((41, 267), (0, 24, 1), 433), ((41, 353), (0, 42, 1), 506), ((41, 356), (0, 43, 1), 510), ((43, 319), (0, 44, 1), 514), ((43, 169), (0, 32, 0), 465), ((44, 278), (0, 31, 0), 461), ((45, 17), (0, 32, 0), 522), ((47, 308), (0, 48, 4), 531), ((47, 290), (0, 35, 3), 477), ((48, 312), (0, 49, 3), 535), ((48, 316), (0, 51, 3), 543), ((48, 319), (0, 44, 1), 514), ((48, 265), (0, 23, 1), 429), ((48, 323), (0, 52, 1), 547), ((49, 106), (0, 18, 0), 409), ((49, 326), (0, 39, 1), 494), ((49, 110), (0, 19, 4), 413), ((49, 333), (0, 50, 1), 539), ((51, 106), (0, 18, 0), 409), ((51, 110), (0, 19, 4), 413), ((53, 55), (1, 9, 3), 376), ((53, 150), (0, 54, 0), 555), ((53, 153), (0, 56, 0), 563), ((53, 156), (0, 57, 0), 567), ((53, 159), (0, 60, 0), 579), ((53, 162), (0, 62, 0), 587), ((54, 359), (0, 55, 2), 559), ((55, 106), (0, 18, 0), 409), ((55, 110), (0, 19, 4), 413), ((56, 359), (0, 55, 2), 559), ((57, 287), (0, 34, 0), 473), ((57, 363), (0, 58, 1), 571), ((57, 366), (0, 59, 1), 575), ((57, 290), (0, 35, 3), 477), ((59, 346), (0, 38, 3), 489), ((60, 363), (0, 58, 1), 571), ((60, 372), (0, 61, 1), 583), ((61, 136), (0, 46, 1), 523), ((61, 172), (0, 40, 2), 498), ((62, 353), (0, 42, 1), 506), ((62, 356), (0, 43, 1), 510), ((63, 165), (0, 64, 0), 595), ((63, 168), (0, 65, 0), 599), ((63, 169), (0, 32, 0), 465), ((63, 172), (0, 40, 2), 498), ((66, 55), (1, 9, 3), 376), ((67, 55), (1, 9, 3), 376), ((67, 189), (0, 68, 1), 612), ((67, 193), (0, 69, 1), 616), ((70, 55), (1, 9, 3), 376), ((70, 245), (1, 71, 1), 624), ((72, 55), (1, 9, 3), 376), ((72, 251), (0, 73, 1), 634), ((74, 257), (0, 75, 0), 642), ((76, 1), (3, 0, 0), 651), ((77, 113), (1, 78, 2), 796), ((79, 113), (1, 78, 2), 796), ((80, 113), (1, 78, 2), 796), ((81, 113), (1, 78, 2), 796), ((82, 113), (1, 78, 2), 796), ((83, 113), (1, 78, 2), 796), ((83, 194), (0, 84, 1), 819), ((83, 160), (0, 94, 1), 859), ((83, 197), (0, 100, 1), 883), ((84, 174), (0, 85, 0), 823), ((84, 181), (0, 86, 1), 827), ((84, 148), (0, 87, 1), 831), ((84, 187), (0, 91, 1), 847), ((84, 190), (0, 92, 3), 851), ((87, 133), (0, 88, 2), 835), ((87, 137), (0, 89, 1), 839), ((87, 141), (0, 90, 1), 843), ((92, 157), (0, 93, 1), 855), ((92, 160), (0, 94, 1), 859), ((92, 164), (0, 95, 3), 863), ((92, 148), (0, 87, 1), 831), ((92, 168), (0, 97, 1), 871), ((92, 171), (0, 98, 1), 875), ((95, 151), (0, 96, 1), 867), ((95, 141), (0, 90, 1), 843), ((97, 133), (0, 88, 2), 835), ((98, 174), (0, 85, 0), 823), ((98, 178), (0, 99, 1), 879), ((98, 181), (0, 86, 1), 827), ((100, 190), (0, 92, 3), 851), ((100, 203), (0, 101, 3), 887), ((100, 206), (0, 102, 5), 891), ((100, 174), (0, 85, 0), 823), ((100, 178), (0, 99, 1), 879), ((100, 141), (0, 90, 1), 843), ((101, 151), (0, 96, 1), 867), ((101, 190), (0, 92, 3), 851), ((101, 206), (0, 102, 5), 891), ((102, 141), (0, 90, 1), 843), ((102, 148), (0, 87, 1), 831), ((103, 113), (1, 78, 2), 796), ((103, 206), (0, 102, 5), 891), ((103, 213), (0, 104, 0), 899), ((103, 216), (0, 106, 1), 907), ((104, 219), (0, 105, 1), 903), ((104, 160), (0, 94, 1), 859), ((104, 164), (0, 95, 3), 863), ((104, 190), (0, 92, 3), 851), ((106, 168), (0, 97, 1), 871), ((106, 171), (0, 98, 1), 875), ((107, 113), (1, 78, 2), 796), ((107, 206), (0, 102, 5), 891), ((109, 181), (0, 86, 1), 827), ((110, 113), (1, 78, 2), 796), ((111, 113), (1, 78, 2), 796), ((111, 133), (0, 88, 2), 835), ((112, 113), (1, 78, 2), 796), ((112, 230), (1, 113, 1), 936), ((114, 113), (1, 78, 2), 796), ((116, 9), (2, 0, 0), 84), ((116, 12), (2, 76, 0), 648), ((116, 13), (0, 8, 3), 372), ((116, 17), (0, 77, 3), 792), ((116, 18), (0, 10, 4), 379), ((116, 22), (0, 79, 4), 799), ((116, 23), (0, 12, 5), 386), ((116, 27), (0, 80, 5), 803), ((116, 28), (0, 15, 2), 397), ((116, 32), (0, 81, 2), 807), ((116, 33), (0, 16, 1), 401), ((116, 37), (0, 82, 1), 811), ((116, 38), (0, 17, 3), 405), ((116, 42), (0, 107, 3), 911), ((116, 43), (0, 27, 0), 445), ((116, 47), (0, 108, 0), 915), ((116, 48), (0, 28, 1), 449), ((116, 51), (0, 83, 1), 815), ((116, 52), (0, 53, 1), 551), ((116, 55), (0, 103, 1), 895), ((116, 56), (0, 63, 0), 591), ((116, 59), (0, 109, 0), 919), ((116, 60), (0, 66, 2), 603), ((116, 64), (0, 110, 2), 923), ((116, 65), (0, 67, 2), 608), ((116, 69), (0, 111, 2), 928), ((116, 70), (0, 70, 2), 620), ((116, 73), (0, 112, 2), 932), ((116, 74), (0, 72, 1), 630), ((116, 77), (0, 114, 1), 939), ((116, 78), (0, 74, 1), 638), ((116, 81), (0, 115, 1), 943)]
def gw_nt : List ((Nat × Nat) × Nat × Nat) := [((0, 27), 5, 96), ((0, 34), 6, 183), ((0, 9), 1, 90), ((0, 15), 3, 92), ((0, 21), 7, 94), ((1, 9), 4, 102), ((4, 9), 2, 207), ((116, 7), 0, 82), ((116, 10), 8, 646)]
def gw_at : List ((Nat × Nat) × Nat × Nat) := [((0, 9), 2, 90), ((0, 15), 3, 92), ((0, 21), 4, 94), ((0, 44), 5, 201), ((1, 9), 5, 102), ((4, 9), 6, 207)]
def gw_lt : List ((Nat × Nat) × Int32 × Nat) := [((71, 265), 1431655765, 627), ((71, 266), 858993459, 628), ((71, 267), 252645135, 629)]
def gw_gt : List ((Nat × Nat) × Int64 × Nat) := [((66, 176), 1099511627776, 607), ((110, 228), 1099511627776, 927)]
def gw_cp : List (Nat × Nat) := [(83, 72), (202, 76), (209, 77), (255, 78), (104, 74), (97, 73), (184, 75), (307, 79), (647, 80)]
def gw_lp : List (List Nat) := [[343, 345, 347, 349, 351, 353, 355, 357, 359, 361, 363, 365, 367, 369], [248, 250, 252], [228, 230, 232, 234, 236, 238], [284, 286, 288, 290, 292, 294, 296, 298, 300, 302, 304], [141, 143, 145, 147, 149, 151, 153, 155, 157, 159, 161, 163, 165, 167], [176, 178, 180], [193, 195, 197], [320, 322, 324, 326], [698, 700, 702, 704, 706, 708, 710, 712, 714, 716, 718, 720, 722, 724, 726, 728, 730, 732, 734, 736, 738, 740, 742, 744, 746, 748, 750, 752, 754, 756, 758, 760, 762, 764, 766, 768, 770, 772, 774, 776, 778, 780, 782, 784, 786, 788]]
def gw_isN (w : Cond) : Bool := match w with
  | .fieldLinkNest _ _ _ _ _ _ => true
  | .methodLinkNest _ _ _ _ => true
  | _ => false
def gw_ws : List Cond := lw_tbl.filter goodWord
def gw_nw : List Cond := lw_tbl.filter gw_isN
def gw : jv_G := (gw_m, fun mi i => (gw_ft.lookup (mi, i)).map (fun e => e.1), fun mi i => (gw_it.lookup (mi, i)).map (fun e => e.1), fun mi i => (gw_nt.lookup (mi, i)).map (fun e => e.1), fun mi i => (gw_at.lookup (mi, i)).map (fun e => e.1), fun mi i => (gw_lt.lookup (mi, i)).map (fun e => e.1), fun mi i => (gw_gt.lookup (mi, i)).map (fun e => e.1), gw_cls, gw_tys, gw_ws, gw_nw)
theorem gw_in {w : Cond} (i : Nat) (h : lw_tbl[i]? = some w) (hg : goodWord w = true) : w ∈ gw_ws := List.mem_filter.mpr ⟨List.mem_of_getElem? h, hg⟩
theorem gw_inN {w : Cond} (i : Nat) (h : lw_tbl[i]? = some w) (hg : gw_isN w = true) : w ∈ gw_nw := List.mem_filter.mpr ⟨List.mem_of_getElem? h, hg⟩
theorem gw_lk {α β : Type} [BEq α] [LawfulBEq α] {l : List (α × β)} {a : α} {b : β} (h : l.lookup a = some b) : (a, b) ∈ l := by
  induction l with
  | nil => cases h
  | cons q l ih =>
    obtain ⟨a', b'⟩ := q
    rw [List.lookup_cons] at h
    split at h
    · rename_i he
      cases h
      have := eq_of_beq he
      subst this
      exact List.mem_cons_self
    · exact List.mem_cons_of_mem _ (ih h)
end
section
/-! ===== the program's tables are right: the methods ===== -/
def gw_toC (q : jv_M) : Cond := Cond.code q.1 q.2.1 q.2.2.1 q.2.2.2.1
set_option maxRecDepth 100000 in
theorem gw_cw : tables_1.filter k2_isCode = (gw_toC <$> gw_ms.take 1) ++ (Cond.code objectInit object_method_1_code 1 none :: (gw_toC <$> (gw_ms.drop 1).take 115)) := rfl

theorem gw_code (i : Nat) (hi : i < 116) : Cond.code (jg_y gw i) (jg_code gw i) (jg_maxL gw i) (jg_ret gw i) ∈ gw_ws := by
  have hm : gw_toC (gw_m i) ∈ tables_1.filter k2_isCode := by
    rw [gw_cw]
    have hl : gw_ms.length = 117 := rfl
    have he : gw_m i = gw_ms[i]'(by omega) := by
      unfold gw_m
      rw [List.getD_eq_getElem?_getD, List.getElem?_eq_getElem (by omega)]
      rfl
    rw [he]
    by_cases h0 : i < 1
    · refine List.mem_append_left _ ?_
      show gw_toC _ ∈ List.map gw_toC _
      refine List.mem_map.mpr ⟨_, ?_, rfl⟩
      have : i = 0 := by omega
      subst this
      exact List.mem_of_getElem? (i := 0) rfl
    · refine List.mem_append_right _ (List.mem_cons_of_mem _ ?_)
      show gw_toC _ ∈ List.map gw_toC _
      refine List.mem_map.mpr ⟨_, ?_, rfl⟩
      refine List.mem_of_getElem? (i := i - 1) ?_
      rw [List.getElem?_take, if_pos (by omega), List.getElem?_drop, show 1 + (i - 1) = i by omega]
      exact List.getElem?_eq_getElem _
  exact List.mem_filter.mpr ⟨List.mem_append_right _ (List.mem_filter.mp hm).1, rfl⟩
def gw_mchk (i : Nat) : Prop := plainName (jg_y gw i).cls = true ∧ jg_maxL gw i ≤ 1000 ∧ lw_tbl[(gw_p i).2.1]? = some (Cond.initialized (jg_y gw i).cls) ∧ (jg_y gw i).cls ≠ "java/lang/invoke/MethodHandle" ∧ (jg_y gw i).cls ≠ "java/lang/invoke/VarHandle"
theorem gw_mc0 : ∀ i, i < 30 → gw_mchk (0 + i) := by unfold gw_mchk; decide +kernel
theorem gw_mc30 : ∀ i, i < 30 → gw_mchk (30 + i) := by unfold gw_mchk; decide +kernel
theorem gw_mc60 : ∀ i, i < 30 → gw_mchk (60 + i) := by unfold gw_mchk; decide +kernel
theorem gw_mc90 : ∀ i, i < 26 → gw_mchk (90 + i) := by unfold gw_mchk; decide +kernel
theorem gw_mok (i : Nat) (hi : i < 116) : jg_mok gw i := by
  have key : gw_mchk i := by
    by_cases h0 : i < 30
    · rw [show i = 0 + (i - 0) by omega]; exact gw_mc0 (i - 0) (by omega)
    by_cases h30 : i < 60
    · rw [show i = 30 + (i - 30) by omega]; exact gw_mc30 (i - 30) (by omega)
    by_cases h60 : i < 90
    · rw [show i = 60 + (i - 60) by omega]; exact gw_mc60 (i - 60) (by omega)
    by_cases h90 : i < 116
    · rw [show i = 90 + (i - 90) by omega]; exact gw_mc90 (i - 90) (by omega)
    omega
  obtain ⟨h1, h2, h4, h5, h6⟩ := key
  exact ⟨h1, h2, gw_code i hi, gw_in _ h4 rfl, h5, h6⟩
end
section
/-! ===== the program's tables are right: the fields ===== -/
def gw_fchk (e : (Nat × Nat) × (Nat × Nat) × Nat) : Prop := match gw_cls[e.2.1.1]? with
  | some q => e.2.1.2 < q.1.2.2 ∧ (lw_tbl[e.2.2]? = some (Cond.fieldLink (jg_own gw e.1.1) e.1.2 (q.1.2.1 e.2.1.2).1 (q.1.2.1 e.2.1.2).2.1 (q.1.2.1 e.2.1.2).2.2.1) ∨ ((q.1.2.1 e.2.1.2).1 ≠ jg_own gw e.1.1 ∧ lw_tbl[e.2.2]? = some (Cond.fieldLinkNest (jg_own gw e.1.1) e.1.2 (q.1.2.1 e.2.1.2).1 (q.1.2.1 e.2.1.2).2.1 (q.1.2.1 e.2.1.2).2.2.1 "GrainHost")))
  | none => False
def gw_fchkD (e : (Nat × Nat) × (Nat × Nat) × Nat) : Decidable (gw_fchk e) := by unfold gw_fchk; split <;> infer_instance
theorem gw_fc0 : ∀ e ∈ (gw_ft.drop 0).take 75, gw_fchk e := @of_decide_eq_true _ (@List.decidableBAll _ gw_fchk gw_fchkD _) (by decide +kernel)
theorem gw_fc75 : ∀ e ∈ (gw_ft.drop 75).take 75, gw_fchk e := @of_decide_eq_true _ (@List.decidableBAll _ gw_fchk gw_fchkD _) (by decide +kernel)
theorem gw_fc150 : ∀ e ∈ (gw_ft.drop 150).take 75, gw_fchk e := @of_decide_eq_true _ (@List.decidableBAll _ gw_fchk gw_fchkD _) (by decide +kernel)
theorem gw_fc225 : ∀ e ∈ (gw_ft.drop 225).take 75, gw_fchk e := @of_decide_eq_true _ (@List.decidableBAll _ gw_fchk gw_fchkD _) (by decide +kernel)
theorem gw_fc300 : ∀ e ∈ (gw_ft.drop 300).take 75, gw_fchk e := @of_decide_eq_true _ (@List.decidableBAll _ gw_fchk gw_fchkD _) (by decide +kernel)
theorem gw_fc375 : ∀ e ∈ (gw_ft.drop 375).take 75, gw_fchk e := @of_decide_eq_true _ (@List.decidableBAll _ gw_fchk gw_fchkD _) (by decide +kernel)
theorem gw_fc450 : ∀ e ∈ (gw_ft.drop 450).take 75, gw_fchk e := @of_decide_eq_true _ (@List.decidableBAll _ gw_fchk gw_fchkD _) (by decide +kernel)
theorem gw_fok : ∀ e ∈ gw_ft, gw_fchk e := by
  intro e he
  have cut : ∀ (l : List ((Nat × Nat) × (Nat × Nat) × Nat)) (n : Nat), e ∈ l → e ∈ l.take n ∨ e ∈ l.drop n := fun l n h => by rw [← List.take_append_drop n l] at h; exact List.mem_append.mp h
  have d0 : e ∈ gw_ft.drop 0 := he
  rcases cut _ 75 d0 with z | z
  · exact gw_fc0 e z
  have d75 : e ∈ gw_ft.drop 75 := by rw [List.drop_drop] at z; exact z
  rcases cut _ 75 d75 with z | z
  · exact gw_fc75 e z
  have d150 : e ∈ gw_ft.drop 150 := by rw [List.drop_drop] at z; exact z
  rcases cut _ 75 d150 with z | z
  · exact gw_fc150 e z
  have d225 : e ∈ gw_ft.drop 225 := by rw [List.drop_drop] at z; exact z
  rcases cut _ 75 d225 with z | z
  · exact gw_fc225 e z
  have d300 : e ∈ gw_ft.drop 300 := by rw [List.drop_drop] at z; exact z
  rcases cut _ 75 d300 with z | z
  · exact gw_fc300 e z
  have d375 : e ∈ gw_ft.drop 375 := by rw [List.drop_drop] at z; exact z
  rcases cut _ 75 d375 with z | z
  · exact gw_fc375 e z
  have d450 : e ∈ gw_ft.drop 450 := by rw [List.drop_drop] at z; exact z
  rcases cut _ 75 d450 with z | z
  · exact gw_fc450 e z
  have d525 : e ∈ gw_ft.drop 525 := by rw [List.drop_drop] at z; exact z
  have hn : gw_ft.drop 525 = [] := by decide +kernel
  rw [hn] at d525
  cases d525
theorem gw_fld (mi i ci k : Nat) (h : jg_fld gw mi i = some (ci, k)) : jg_flok gw mi i ci k := by
  have h' : (gw_ft.lookup (mi, i)).map (fun e => e.1) = some (ci, k) := h
  cases hl : gw_ft.lookup (mi, i) with
  | none => rw [hl] at h'; cases h'
  | some e =>
    rw [hl] at h'
    obtain ⟨⟨ci', k'⟩, ps⟩ := e
    cases h'
    have hc := gw_fok _ (gw_lk hl)
    unfold gw_fchk at hc
    dsimp only at hc
    split at hc
    · rename_i q hq
      obtain ⟨h1, h2⟩ := hc
      refine ⟨q, hq, h1, ?_⟩
      rcases h2 with h2 | ⟨h2, h3⟩
      · exact Or.inl (gw_in _ h2 rfl)
      · exact Or.inr ⟨h2, "GrainHost", gw_inN _ h3 rfl⟩
    · exact hc.elim
end
section
/-! ===== the program's tables are right: calls, new cells, constants, classes ===== -/
def gw_ichk (e : (Nat × Nat) × (Nat × Nat × Nat) × Nat) : Prop := match e with
  | ((mi, i), (0, y, n), ps) => y < 116 ∧ (jg_fr gw y + 1 ≤ jg_fr gw mi ∧ 8 + (jg_maxL gw y + 11) + jg_lo gw y ≤ jg_lo gw mi) ∧ (lw_tbl[ps]? = some (Cond.methodLink (jg_own gw mi) i (jg_y gw y)) ∨ lw_tbl[ps]? = some (Cond.methodLinkNest (jg_own gw mi) i (jg_y gw y) "GrainHost")) ∧ (parseMethodDescriptor (jg_y gw y).desc).map (fun d => d.parameters.length) = some n ∧ lw_tbl[(gw_p y).2.2.1]? = some (Cond.instanceMethod (jg_y gw y)) ∧ lw_tbl[(gw_p y).2.2.2]? = some (Cond.selects (jg_y gw y).cls (jg_y gw y) (jg_y gw y)) ∧ (gw_cls[jg_mc gw y]?).map (fun q => q.1.1) = some (jg_y gw y).cls
  | ((mi, i), (1, y, n), ps) => y < 116 ∧ (jg_fr gw y + 1 ≤ jg_fr gw mi ∧ 8 + (jg_maxL gw y + 11) + jg_lo gw y ≤ jg_lo gw mi) ∧ (lw_tbl[ps]? = some (Cond.methodLink (jg_own gw mi) i (jg_y gw y)) ∨ lw_tbl[ps]? = some (Cond.methodLinkNest (jg_own gw mi) i (jg_y gw y) "GrainHost")) ∧ (parseMethodDescriptor (jg_y gw y).desc).map (fun d => d.parameters.length) = some n ∧ lw_tbl[(gw_p y).2.2.1]? = some (Cond.static (jg_y gw y))
  | ((mi, i), (2, y, n), ps) => y < 116 ∧ (jg_fr gw y + 1 ≤ jg_fr gw mi ∧ 8 + (jg_maxL gw y + 11) + jg_lo gw y ≤ jg_lo gw mi) ∧ (lw_tbl[ps]? = some (Cond.methodLink (jg_own gw mi) i (jg_y gw y)) ∨ lw_tbl[ps]? = some (Cond.methodLinkNest (jg_own gw mi) i (jg_y gw y) "GrainHost")) ∧ (parseMethodDescriptor (jg_y gw y).desc).map (fun d => d.parameters.length) = some n ∧ lw_tbl[(gw_p y).2.2.1]? = some (Cond.instanceMethod (jg_y gw y)) ∧ (jg_y gw y).name = "<init>" ∧ jg_ret gw y = none
  | ((mi, i), (3, _, _), ps) => lw_tbl[ps]? = some (Cond.methodLink (jg_own gw mi) i objectInit) ∧ 1 ≤ jg_fr gw mi ∧ 20 ≤ jg_lo gw mi
  | _ => False
def gw_ichkD (e : (Nat × Nat) × (Nat × Nat × Nat) × Nat) : Decidable (gw_ichk e) := by unfold gw_ichk; split <;> infer_instance
theorem gw_ic0 : ∀ e ∈ (gw_it.drop 0).take 41, gw_ichk e := @of_decide_eq_true _ (@List.decidableBAll _ gw_ichk gw_ichkD _) (by decide +kernel)
theorem gw_ic41 : ∀ e ∈ (gw_it.drop 41).take 41, gw_ichk e := @of_decide_eq_true _ (@List.decidableBAll _ gw_ichk gw_ichkD _) (by decide +kernel)
theorem gw_ic82 : ∀ e ∈ (gw_it.drop 82).take 41, gw_ichk e := @of_decide_eq_true _ (@List.decidableBAll _ gw_ichk gw_ichkD _) (by decide +kernel)
theorem gw_ic123 : ∀ e ∈ (gw_it.drop 123).take 41, gw_ichk e := @of_decide_eq_true _ (@List.decidableBAll _ gw_ichk gw_ichkD _) (by decide +kernel)
theorem gw_ic164 : ∀ e ∈ (gw_it.drop 164).take 41, gw_ichk e := @of_decide_eq_true _ (@List.decidableBAll _ gw_ichk gw_ichkD _) (by decide +kernel)
theorem gw_iok : ∀ e ∈ gw_it, gw_ichk e := by
  intro e he
  have cut : ∀ (l : List ((Nat × Nat) × (Nat × Nat × Nat) × Nat)) (n : Nat), e ∈ l → e ∈ l.take n ∨ e ∈ l.drop n := fun l n h => by rw [← List.take_append_drop n l] at h; exact List.mem_append.mp h
  have d0 : e ∈ gw_it.drop 0 := he
  rcases cut _ 41 d0 with z | z
  · exact gw_ic0 e z
  have d41 : e ∈ gw_it.drop 41 := by rw [List.drop_drop] at z; exact z
  rcases cut _ 41 d41 with z | z
  · exact gw_ic41 e z
  have d82 : e ∈ gw_it.drop 82 := by rw [List.drop_drop] at z; exact z
  rcases cut _ 41 d82 with z | z
  · exact gw_ic82 e z
  have d123 : e ∈ gw_it.drop 123 := by rw [List.drop_drop] at z; exact z
  rcases cut _ 41 d123 with z | z
  · exact gw_ic123 e z
  have d164 : e ∈ gw_it.drop 164 := by rw [List.drop_drop] at z; exact z
  rcases cut _ 41 d164 with z | z
  · exact gw_ic164 e z
  have d205 : e ∈ gw_it.drop 205 := by rw [List.drop_drop] at z; exact z
  have hn : gw_it.drop 205 = [] := by decide +kernel
  rw [hn] at d205
  cases d205
theorem gw_obj1 : Cond.instanceMethod objectInit ∈ gw_ws := gw_in 88 (by decide +kernel) rfl
set_option maxRecDepth 100000 in
theorem gw_obj2 : Cond.code objectInit ⟨#[0xb1]⟩ 1 none ∈ gw_ws := gw_in 89 rfl rfl
theorem gw_inv (mi i k y n : Nat) (h : jg_inv gw mi i = some (k, y, n)) : jg_cok gw mi i k y n := by
  have h' : (gw_it.lookup (mi, i)).map (fun e => e.1) = some (k, y, n) := h
  cases hl : gw_it.lookup (mi, i) with
  | none => rw [hl] at h'; cases h'
  | some e =>
    rw [hl] at h'
    obtain ⟨⟨k', y', n'⟩, ps⟩ := e
    cases h'
    have hc := gw_iok _ (gw_lk hl)
    have lnk : (lw_tbl[ps]? = some (Cond.methodLink (jg_own gw mi) i (jg_y gw y)) ∨ lw_tbl[ps]? = some (Cond.methodLinkNest (jg_own gw mi) i (jg_y gw y) "GrainHost")) → jg_lok gw mi i y := by
      intro z
      rcases z with z | z
      · exact Or.inl (gw_in _ z rfl)
      · exact Or.inr ⟨"GrainHost", gw_inN _ z rfl⟩
    match k, hc with
    | 0, hc =>
      obtain ⟨h1, h2, h3, h4, h5, h6, h7⟩ := hc
      refine ⟨gw_mok y h1, h2, lnk h3, h4, gw_in _ h5 rfl, gw_in _ h6 rfl, ?_⟩
      cases hq : gw_cls[jg_mc gw y]? with
      | none => rw [hq] at h7; cases h7
      | some q => rw [hq] at h7; exact ⟨q, hq, Option.some.inj h7⟩
    | 1, hc =>
      obtain ⟨h1, h2, h3, h4, h5⟩ := hc
      exact ⟨gw_mok y h1, h2, lnk h3, h4, gw_in _ h5 rfl⟩
    | 2, hc =>
      obtain ⟨h1, h2, h3, h4, h5, h6, h7⟩ := hc
      exact ⟨gw_mok y h1, h2, lnk h3, h4, gw_in _ h5 rfl, h6, h7⟩
    | 3, hc =>
      obtain ⟨h1, h2, h3⟩ := hc
      exact ⟨gw_in _ h1 rfl, gw_obj1, gw_obj2, h2, h3⟩
    | k + 4, hc => exact trivial
def gw_nchk (e : (Nat × Nat) × Nat × Nat) : Prop := match gw_cls[e.2.1]?, gw_cp[e.2.1]? with
  | some q, some p => lw_tbl[e.2.2]? = some (Cond.classLink (jg_own gw e.1.1) e.1.2 q.1.1) ∧ lw_tbl[p.1]? = some (Cond.instantiable q.1.1 q.1.2.2) ∧ lw_tbl[p.2]? = some (Cond.initialized q.1.1)
  | _, _ => False
def gw_nchkD (e : (Nat × Nat) × Nat × Nat) : Decidable (gw_nchk e) := by unfold gw_nchk; split <;> infer_instance
theorem gw_nok : ∀ e ∈ gw_nt, gw_nchk e := @of_decide_eq_true _ (@List.decidableBAll _ gw_nchk gw_nchkD _) (by decide +kernel)
theorem gw_new (mi i ci : Nat) (h : jg_new gw mi i = some ci) : jg_nwok gw mi i ci := by
  have h' : (gw_nt.lookup (mi, i)).map (fun e => e.1) = some ci := h
  cases hl : gw_nt.lookup (mi, i) with
  | none => rw [hl] at h'; cases h'
  | some e =>
    rw [hl] at h'
    obtain ⟨ci', ps⟩ := e
    cases h'
    have hc := gw_nok _ (gw_lk hl)
    unfold gw_nchk at hc
    dsimp only at hc
    split at hc
    · rename_i q p hq hp
      obtain ⟨h1, h2, h3⟩ := hc
      exact ⟨q, hq, gw_in _ h1 rfl, gw_in _ h2 rfl, gw_in _ h3 rfl⟩
    · exact hc.elim
def gw_achk (e : (Nat × Nat) × Nat × Nat) : Prop := match gw_tys[e.2.1]? with
  | some (.object C, _) => lw_tbl[e.2.2]? = some (Cond.classLink (jg_own gw e.1.1) e.1.2 C)
  | _ => False
def gw_achkD (e : (Nat × Nat) × Nat × Nat) : Decidable (gw_achk e) := by unfold gw_achk; split <;> infer_instance
theorem gw_aok : ∀ e ∈ gw_at, gw_achk e := @of_decide_eq_true _ (@List.decidableBAll _ gw_achk gw_achkD _) (by decide +kernel)
theorem gw_anw (mi i t : Nat) (h : jg_anw gw mi i = some t) : jg_anok gw mi i t := by
  have h' : (gw_at.lookup (mi, i)).map (fun e => e.1) = some t := h
  cases hl : gw_at.lookup (mi, i) with
  | none => rw [hl] at h'; cases h'
  | some e =>
    rw [hl] at h'
    obtain ⟨t', ps⟩ := e
    cases h'
    have hc := gw_aok _ (gw_lk hl)
    unfold gw_achk at hc
    dsimp only at hc
    split at hc
    · rename_i C ci hq
      exact ⟨C, ci, hq, gw_in _ hc rfl⟩
    · exact hc.elim
theorem gw_lok : ∀ e ∈ gw_lt, lw_tbl[e.2.2]? = some (Cond.constant (jg_own gw e.1.1) e.1.2 e.2.1) := by decide +kernel
theorem gw_gok : ∀ e ∈ gw_gt, lw_tbl[e.2.2]? = some (Cond.constantLong (jg_own gw e.1.1) e.1.2 e.2.1) := by decide +kernel
theorem gw_ldc (mi i : Nat) (v : Int32) (h : jg_ldc gw mi i = some v) : Cond.constant (jg_own gw mi) i v ∈ gw_ws := by
  have h' : (gw_lt.lookup (mi, i)).map (fun e => e.1) = some v := h
  cases hl : gw_lt.lookup (mi, i) with
  | none => rw [hl] at h'; cases h'
  | some e =>
    rw [hl] at h'
    obtain ⟨v', ps⟩ := e
    cases h'
    exact gw_in _ (gw_lok _ (gw_lk hl)) rfl
theorem gw_ldl (mi i : Nat) (v : Int64) (h : jg_ldl gw mi i = some v) : Cond.constantLong (jg_own gw mi) i v ∈ gw_ws := by
  have h' : (gw_gt.lookup (mi, i)).map (fun e => e.1) = some v := h
  cases hl : gw_gt.lookup (mi, i) with
  | none => rw [hl] at h'; cases h'
  | some e =>
    rw [hl] at h'
    obtain ⟨v', ps⟩ := e
    cases h'
    exact gw_in _ (gw_gok _ (gw_lk hl)) rfl
theorem gw_lay0 : ∀ k, k < 14 → lw_tbl[(gw_lp.getD 0 []).getD k 0]? = some (u_lay "GrainHost" gT0 k) := by decide +kernel
theorem gw_cl0 : jg_clok gw (("GrainHost", gT0, 14), gY0) := by
  refine ⟨fun w hw => ?_, by decide +kernel, by decide +kernel⟩
  obtain ⟨k, hk, rfl⟩ := List.mem_map.mp hw
  have hk := List.mem_range.mp hk
  refine gw_in _ (gw_lay0 k hk) ?_
  unfold u_lay
  split <;> rfl
theorem gw_lay1 : ∀ k, k < 3 → lw_tbl[(gw_lp.getD 1 []).getD k 0]? = some (u_lay "GrainHost$Kind" gT1 k) := by decide +kernel
theorem gw_cl1 : jg_clok gw (("GrainHost$Kind", gT1, 3), gY1) := by
  refine ⟨fun w hw => ?_, by decide +kernel, by decide +kernel⟩
  obtain ⟨k, hk, rfl⟩ := List.mem_map.mp hw
  have hk := List.mem_range.mp hk
  refine gw_in _ (gw_lay1 k hk) ?_
  unfold u_lay
  split <;> rfl
theorem gw_lay2 : ∀ k, k < 6 → lw_tbl[(gw_lp.getD 2 []).getD k 0]? = some (u_lay "GrainHost$Method" gT2 k) := by decide +kernel
theorem gw_cl2 : jg_clok gw (("GrainHost$Method", gT2, 6), gY2) := by
  refine ⟨fun w hw => ?_, by decide +kernel, by decide +kernel⟩
  obtain ⟨k, hk, rfl⟩ := List.mem_map.mp hw
  have hk := List.mem_range.mp hk
  refine gw_in _ (gw_lay2 k hk) ?_
  unfold u_lay
  split <;> rfl
theorem gw_lay3 : ∀ k, k < 11 → lw_tbl[(gw_lp.getD 3 []).getD k 0]? = some (u_lay "GrainHost$Grain" gT3 k) := by decide +kernel
theorem gw_cl3 : jg_clok gw (("GrainHost$Grain", gT3, 11), gY3) := by
  refine ⟨fun w hw => ?_, by decide +kernel, by decide +kernel⟩
  obtain ⟨k, hk, rfl⟩ := List.mem_map.mp hw
  have hk := List.mem_range.mp hk
  refine gw_in _ (gw_lay3 k hk) ?_
  unfold u_lay
  split <;> rfl
theorem gw_lay4 : ∀ k, k < 14 → lw_tbl[(gw_lp.getD 4 []).getD k 0]? = some (u_lay "GrainHost$Request" gT4 k) := by decide +kernel
theorem gw_cl4 : jg_clok gw (("GrainHost$Request", gT4, 14), gY4) := by
  refine ⟨fun w hw => ?_, by decide +kernel, by decide +kernel⟩
  obtain ⟨k, hk, rfl⟩ := List.mem_map.mp hw
  have hk := List.mem_range.mp hk
  refine gw_in _ (gw_lay4 k hk) ?_
  unfold u_lay
  split <;> rfl
theorem gw_lay5 : ∀ k, k < 3 → lw_tbl[(gw_lp.getD 5 []).getD k 0]? = some (u_lay "GrainHost$Requests" gT5 k) := by decide +kernel
theorem gw_cl5 : jg_clok gw (("GrainHost$Requests", gT5, 3), gY5) := by
  refine ⟨fun w hw => ?_, by decide +kernel, by decide +kernel⟩
  obtain ⟨k, hk, rfl⟩ := List.mem_map.mp hw
  have hk := List.mem_range.mp hk
  refine gw_in _ (gw_lay5 k hk) ?_
  unfold u_lay
  split <;> rfl
theorem gw_lay6 : ∀ k, k < 3 → lw_tbl[(gw_lp.getD 6 []).getD k 0]? = some (u_lay "GrainHost$Line" gT6 k) := by decide +kernel
theorem gw_cl6 : jg_clok gw (("GrainHost$Line", gT6, 3), gY6) := by
  refine ⟨fun w hw => ?_, by decide +kernel, by decide +kernel⟩
  obtain ⟨k, hk, rfl⟩ := List.mem_map.mp hw
  have hk := List.mem_range.mp hk
  refine gw_in _ (gw_lay6 k hk) ?_
  unfold u_lay
  split <;> rfl
theorem gw_lay7 : ∀ k, k < 4 → lw_tbl[(gw_lp.getD 7 []).getD k 0]? = some (u_lay "GrainHost$Outside" gT7 k) := by decide +kernel
theorem gw_cl7 : jg_clok gw (("GrainHost$Outside", gT7, 4), gY7) := by
  refine ⟨fun w hw => ?_, by decide +kernel, by decide +kernel⟩
  obtain ⟨k, hk, rfl⟩ := List.mem_map.mp hw
  have hk := List.mem_range.mp hk
  refine gw_in _ (gw_lay7 k hk) ?_
  unfold u_lay
  split <;> rfl
theorem gw_lay8 : ∀ k, k < 46 → lw_tbl[(gw_lp.getD 8 []).getD k 0]? = some (u_lay "GrainHostModel" gT8 k) := by decide +kernel
theorem gw_cl8 : jg_clok gw (("GrainHostModel", gT8, 46), gY8) := by
  refine ⟨fun w hw => ?_, by decide +kernel, by decide +kernel⟩
  obtain ⟨k, hk, rfl⟩ := List.mem_map.mp hw
  have hk := List.mem_range.mp hk
  refine gw_in _ (gw_lay8 k hk) ?_
  unfold u_lay
  split <;> rfl
theorem gw_clok : ∀ q ∈ jg_cls gw, jg_clok gw q := by
  show ∀ q ∈ gw_cls, jg_clok gw q
  unfold gw_cls
  simp only [List.forall_mem_cons]
  exact ⟨gw_cl0, gw_cl1, gw_cl2, gw_cl3, gw_cl4, gw_cl5, gw_cl6, gw_cl7, gw_cl8, fun _ h => absurd h List.not_mem_nil⟩
theorem gw_ok : jg_ok gw := by
  refine ⟨by decide +kernel, ?_, ?_, gw_clok, gw_fld, gw_inv, gw_new, gw_anw, gw_ldc, gw_ldl, rfl, rfl, gw_in 200 (by decide +kernel) rfl, gw_in 791 (by decide +kernel) rfl, ?_⟩
  · intro w hw
    have h := (List.mem_filter.mp hw).2
    cases w <;> first | exact Or.inl ⟨_, _, _, _, _, _, rfl⟩ | exact Or.inr ⟨_, _, _, _, rfl⟩ | cases h
  · intro w hw
    exact good_of_word (List.mem_filter.mp hw).2
  · intro t ty ci h h2
    have h' : gw_tys[t]? = some (ty, ci) := h
    have hl : t < 7 := (List.getElem?_eq_some_iff.mp h').1
    rcases (show t = 2 ∨ t = 3 ∨ t = 4 ∨ t = 5 ∨ t = 6 by omega) with rfl | rfl | rfl | rfl | rfl <;> cases h' <;> exact ⟨_, _, rfl, rfl, rfl⟩
theorem gw_inst : ∀ q ∈ jg_cls gw, Cond.instantiable q.1.1 q.1.2.2 ∈ jg_ws gw := by
  show ∀ q ∈ gw_cls, Cond.instantiable q.1.1 q.1.2.2 ∈ gw_ws
  unfold gw_cls
  simp only [List.forall_mem_cons]
  exact ⟨gw_in 83 (by decide +kernel) rfl, gw_in 202 (by decide +kernel) rfl, gw_in 209 (by decide +kernel) rfl, gw_in 255 (by decide +kernel) rfl, gw_in 104 (by decide +kernel) rfl, gw_in 97 (by decide +kernel) rfl, gw_in 184 (by decide +kernel) rfl, gw_in 307 (by decide +kernel) rfl, gw_in 647 (by decide +kernel) rfl, fun _ h => absurd h List.not_mem_nil⟩
theorem gw_over : ∀ (t : Nat) (C : String) (ci : Nat), (jg_tys gw)[t]? = some (FieldType.object C, ci) → Cond.arrayOver (.object C) ∈ lw_tbl := by
  intro t C ci h
  have h' : gw_tys[t]? = some (FieldType.object C, ci) := h
  have hl : t < 7 := (List.getElem?_eq_some_iff.mp h').1
  rcases (show t = 0 ∨ t = 1 ∨ t = 2 ∨ t = 3 ∨ t = 4 ∨ t = 5 ∨ t = 6 by omega) with rfl | rfl | rfl | rfl | rfl | rfl | rfl <;> cases h'
  · exact List.mem_of_getElem? (i := 91) (by decide +kernel)
  · exact List.mem_of_getElem? (i := 93) (by decide +kernel)
  · exact List.mem_of_getElem? (i := 95) (by decide +kernel)
  · exact List.mem_of_getElem? (i := 103) (by decide +kernel)
  · exact List.mem_of_getElem? (i := 208) (by decide +kernel)
end
section
def jv_h0 : jv_H := (0, 0, fun _ => jv_no)
/-- WHAT IS LEFT, pure: the small machine does the law to its end, with 1, within the room -/
theorem gw_law (X : Nat × (Nat → Int32)) (hX : X.1 ≤ 3072) : ∃ (d : Nat) (hf : jv_H), jl gw X d 116 0 [some (.ref 0), none, none, none] [] jv_h0 = some (some (.int 1), hf) ∧ hf.1 ≤ 600000 ∧ hf.2.1 ≤ 7302250 := by
  sorry
end
section
-- ===== end of PART A; then your names; then what follows =====
/-! THE CLAIM OUT OF ONE WALK OF THE LAW'S BODY. Your part is whole_start (and what it stands on); all else here is the same for every law, but numbers. -/
def R_law : String := "GrainHostLaw"
def lw_P (b : Addr) (xs : List Int32) (args : Array Value) (s : State) : Prop := args = #[.ref b] ∧ s.IntsAt b xs ∧ xs.length ≤ 3072 ∧ (Jvm.Cond.and given_1 narrow_1).before args s = true
def lw_Q (_ : Array Value) (s : State) (o : Outcome) (t : State) : Prop := o = .returned (some (.int 1)) ∧ Framed s o t [] 600000 7302250
def lw_Z (below : List Frame) (a : Array Value) (s : State) : State → Prop := fun t => ∃ o, t.status = .running ∧ Ended t below o ∧ lw_Q a s o t
/-- the law's own end, with 1 on the stack, nothing written that was there before, its room as the claim has it -/
theorem lw_ret {p : Program} {l : Launch} {e : Env} {s : State} {m : MethodId} {below : List Frame} {meth : Method} {c : Code} {b : Nat} (hx : p.tables.exec = Jvm.exec) (hb : c.code = code) (hr : meth.sig.returnType = ret) (hlocks : meth.locks = false) {pc : Nat} {H : Heap} {ls : Array Slot} (hdg : decode code pc = .ok (.ireturn, 1)) : W p l e room_1 s m #[Value.ref b] below meth c H [] 600000 7302250 (lw_Z below #[Value.ref b] s) (F0 m pc ls [.int 1]) := by
  intro T hT X
  obtain ⟨fs, hret, hrun, hended, hW, hframe⟩ := X.leave (v := some (.int 1)) (hlocks := hlocks) (fun h => by rw [hr] at h; cases h)
  have hmeth' : T.vm.method? m = some meth := X.method'
  refine ⟨T.setFrames fs, ?_, .returned (some (.int 1)), hrun, hended, rfl, ⟨_, rfl⟩, hW, hframe⟩
  jvm_step X.here [X.here.top, hx, hb, hdg, hmeth', hr, ret, narrow_b1]
  (try refine ⟨rfl, ?_⟩); (try refine ⟨rfl, ?_⟩)
  first | (intro acts; rw [hret _ acts rfl rfl rfl]) | rw [hret _ _ rfl rfl rfl]
  exact Steps.refl _
/-- what holds at the law's entry: the machine, the code, the tables' words (any of lw_tbl by 'hts w (by decide +kernel)'), the script of L ints xs at the cell b, what the Statement gives of the start (any of its parts by flat_of_before) -/
def lw_At (p : Program) (s : State) (m : MethodId) (meth : Method) (c : Code) (b L : Nat) (xs : Nat → Int32) : Prop :=
  p.tables.exec = Jvm.exec ∧ c.code = code ∧ meth.sig.returnType = ret ∧ c.maxLocals = 4 ∧ s.vm.findClass R_law = some m.cls ∧ (∀ w ∈ lw_tbl, w.before #[Value.ref b] s = true) ∧ va_X b L xs s s.heap ∧ b < s.heap.size ∧ meth.locks = false ∧ (Jvm.Cond.and given_1 narrow_1).before #[Value.ref b] s = true
-- ===== YOUR PART BEGINS =====
/-- YOUR PART: from the entry, for every script of at most 3072 ints, the law comes to its end with true -/
theorem whole_start {p : Program} {e : Env} {s : State} {m : MethodId} {below : List Frame} {meth : Method} {c : Code} (l : Launch) {b L : Nat} {xs : Nat → Int32} (hL : L ≤ 3072) (C0 : lw_At p s m meth c b L xs) : W p l e room_1 s m #[Value.ref b] below meth c s.heap [] 0 0 (lw_Z below #[Value.ref b] s) (entryFrame m ([Value.ref b] : List Value).toArray 4) := by
  obtain ⟨hx, hb, hr, hml, hown, hts, hX, hbl, hlocks, hgv⟩ := C0
  have hts1 : ∀ w ∈ jg_ws gw, w.before #[Value.ref b] s = true := fun w hw => hts w (List.mem_filter.mp hw).1
  obtain ⟨D, cA, hK⟩ := jv_start gw_ok gw_inst hts1 (fun w hw => hts w (List.mem_filter.mp hw).1) (fun t C ci h => hts _ (gw_over t C ci h))
  obtain ⟨d, hf, hrun, hc, hs⟩ := gw_law (L, xs) hL
  unfold jl at hrun
  obtain ⟨n, hrun⟩ := jv_lim_run hrun
  have CX : jv_Cx p s m #[Value.ref b] meth c gw D cA 116 := ⟨hx, hb, hml, hown, hts1, fun z => absurd z (by decide +kernel), hK⟩
  have hwf : jv_wf jv_h0 := fun _ _ => rfl
  have hWd : jv_Wd gw (L, xs) D s.heap.size b cA jv_h0 s s.heap := ⟨rfl, fun k q h => by simp [jv_ws, jv_h0] at h, hX⟩
  have hlv := jv_lv_entry (base := s.heap.size) (b := b) (n := 4) (as := [.ref 0]) (by intro v hv; rw [List.mem_singleton.mp hv]; rfl) (by decide)
  rw [lg_entry_eq]
  have key := jv_run_sound (p := p) (l := l) (e := e) (R := room_1) (s := s) (m := m) (args := #[Value.ref b]) (below := below) (meth := meth) (c := c) (Q := lw_Z below #[Value.ref b] s) gw_ok hbl CX ⟨by decide +kernel, by decide +kernel⟩ (jv_sound gw_ok hbl d) (n0 := 0) (s0 := 0) (r := some (.int 1)) (hf := hf) (by show hf.1 - 0 ≤ 600000; omega) (by show hf.2.1 - 0 ≤ 7302250; omega) ?_ n 0 [some (.ref 0), none, none, none] [] jv_h0 hwf hrun (Nat.zero_le _) (Nat.zero_le _) s.heap [] _ hWd hlv va_S.rf
  · exact key
  · intro pc S hret H locs ls hWd1 hS1
    rcases hret with ⟨hd, v, rfl, hv, -⟩ | ⟨-, v, -, hv, -⟩ | ⟨-, x, C, -, hv, -⟩ | ⟨-, -, hv, -⟩
    · cases hv
      refine va_forget (fun q hq => hS1.2.2 q hq) ?_
      refine W.widen (k := 600000) (n := 7302250) (by omega) (by omega) ?_
      exact lw_ret hx hb hr hlocks hd
    · cases hv
    · cases x <;> cases hv
    · cases hv
-- ===== YOUR PART ENDS =====
set_option maxHeartbeats 4000000 in
theorem lw_walk (l : Launch) (b : Addr) (xs : List Int32) : MetFree l x (headSpec (Jvm.Cond.code x code maxLocals ret :: tables_1) room_1) (lw_P b xs) (fun _ _ _ _ _ => True) lw_Q := by
  refine MetFree.of_bodyS (code := code) (maxLocals := maxLocals) (ret := ret) (by decide) ?_ ?_
  · intro args s m h hn
    obtain ⟨meth, c, h1, h2, h3, h4, h5, h6, -, -⟩ := Cond.code_spec hn (atoms_spec (ws := Jvm.Cond.code x code maxLocals ret :: tables_1) h _ List.mem_cons_self)
    exact ⟨meth, c, h1, h2, h3, h4, h5, h6⟩
  · intro p e s m args below meth c s₁ B hml0 hP _
    obtain ⟨rfl, hx, hbd, hgv⟩ := hP
    obtain ⟨scr, harrAt, hlist, hof, hsmall⟩ := hx
    obtain ⟨hcb, hkn, -, -⟩ := State.arrayAt?_spec harrAt
    have hown : s.vm.findClass R_law = some m.cls := findClass_of_methodNamed B.named
    have hts0 : ∀ c ∈ (Jvm.Cond.code x code maxLocals ret :: tables_1), c.before #[Value.ref b] s = true := atoms_spec (ws := Jvm.Cond.code x code maxLocals ret :: tables_1) B.pre
    have hts : ∀ w ∈ lw_tbl, w.before #[Value.ref b] s = true := k2_hts_sels lw_privs (fun w hw => hts0 w (List.mem_cons_of_mem _ hw)) lw_privs_ok
    have hml : c.maxLocals = 4 := B.maxLocals_eq (hts0 _ List.mem_cons_self)
    have X₀ : Stand p l e room_1 s m #[Value.ref b] below meth c s₁ [] 0 0 := Stand.of_body B
    have hh0 : s₁.heap = s.heap := by rw [B.state]; rfl
    have hsz : scr.slots.size = xs.length := by rw [← Array.length_toList, hlist, List.length_map]
    have hval : ∀ j : Nat, j < xs.length → scr.slots[j]? = some (.int (xs.getD j 0)) := fun j hj => by
      rw [← Array.getElem?_toList, hlist]
      simp [hj]
    have hbl : b < s.heap.size := (Array.getElem?_eq_some_iff.mp hcb).1
    have hX : va_X b xs.length (fun j => xs.getD j 0) s s.heap := ⟨scr, hcb, hof, hkn, hsz, hval⟩
    have K : W p l e room_1 s m #[Value.ref b] below meth c s₁.heap [] 0 0 (lw_Z below #[Value.ref b] s) (entryFrame m ([Value.ref b] : List Value).toArray 4) := by
      rw [hh0]
      exact whole_start l hbd ⟨B.exec, B.bytes, B.returns, hml, hown, hts, hX, hbl, B.notSynchronized, hgv⟩
    obtain ⟨t, a1, o, b1, b2, b3⟩ := K s₁ rfl X₀
    exact ⟨t, o, a1, b1, b2, b3⟩
theorem lw_pre_spec {args : Array Value} {s : State} (h : (Jvm.Cond.and given_1 narrow_1).before args s = true) (hr : rest_1_c.before args s = true) : ∃ (b : Addr) (xs : List Int32), lw_P b xs args s := by
  have hs := flat_of_before _ h
  have hq := flat_of_before _ hr
  have hc : (Cond.count 1).before args s = true := hs _ (by decide +kernel)
  have harr : (Cond.arrayOf (.arg 0) .int).before args s = true := hs _ (by decide +kernel)
  have hle : (Cond.le (.length (.arg 0)) (.int 3072)).before args s = true := hs _ (by decide +kernel)
  have hlen : (Cond.isInt (.length (.arg 0))).before args s = true := hq _ (by decide +kernel)
  have hall : (Cond.all (.arg 0) (.isInt (.elem (.arg 0) (.index 0)))).before args s = true := hq _ (by decide +kernel)
  obtain ⟨b, xs, hb, hx⟩ := State.ints_of_pre rfl harr hlen hall
  have hsm : xs.length < 2 ^ 31 := hx.choose_spec.2.2.2
  have hev : (Term.length (.arg 0)).eval args s none [] s = some (.int xs.length.toInt32) := hx.length_eval hb
  have hv := Cond.le_ints hev (show (Term.int 3072).eval args s none [] s = some (.int 3072) from rfl)
  have hd : xs.length.toInt32 ≤ 3072 := by
    simpa [Cond.before, Cond.holds, hv] using hle
  have hN : xs.length ≤ 3072 := (Int32.ofNat_le_ofNat hsm (by decide)).mp (show Int32.ofNat xs.length ≤ Int32.ofNat 3072 from hd)
  exact ⟨b, xs, Cond.one_arg hc (show args[0]? = some (.ref b) from hb), hx, hN, h⟩
theorem lw_comes (l : Launch) : Comes l x (Jvm.Cond.code x code maxLocals ret :: tables_1) room_1 (fun tb e args s => Calls_1 tb e args s ∧ rest_1 tb e args s ∧ Pre_1 tb e args s)
    (fun _ _ args s o t => lw_Q args s o t) := by
  intro p e ha hc hk s m args below hf hfit hheap happ hpre
  obtain ⟨b, xs, hP⟩ := lw_pre_spec hpre.2.2 hpre.2.1
  obtain ⟨k, o, h1, h2, h3, hQ⟩ := lw_walk l b xs p e ha hc hk s m args below hf ((Spec.applies_iff_loose hf).mp happ).1 hP trivial
  exact ⟨k, o, h1, h2, h3, hQ⟩
theorem lw_frame {s t : State} {o : Outcome} {args : Array Value} (h : Framed s o t [] 600000 7302250) :
    Framed s o t (fieldLocs frame_1_writes args s ++ arrayLocs frame_1_arrays args s ++ staticLocs frame_1_statics s) 600000 7302250 := h
theorem lw_limb (L : Cond) (hL : ∀ (args : Array Value) (s t : State), L.after args s (.returned (some (.int 1))) t = true) :
    ArmFor flags0 classFile x code maxLocals ret World_1 tables_1 room_1 Calls_1 rest_1 Pre_1
      (fun tb e a s o t => postC L tb e a s o t ∧ Framed s o t (fieldLocs frame_1_writes a s ++ arrayLocs frame_1_arrays a s ++ staticLocs frame_1_statics s) 600000 7302250) := by
  intro l _ _ _ p e ha hc hk s m args below hf hfit hheap happ hpre
  obtain ⟨k, o, h1, h2, h3, rfl, hF⟩ := lw_comes l p e ha hc hk s m args below hf hfit hheap happ hpre
  exact ⟨k, _, h1, h2, h3, hL args s _, lw_frame hF⟩
theorem i_vc : Claimed_1_1 ∧ Claimed_1_2 := ⟨lw_limb limb_1_1 (fun args s t => by simp [limb_1_1, Cond.after, Cond.holds, Cond.value]), lw_limb limb_1_2 (fun args s t => Cond.after_iff.mpr (by
  first | (rw [show limb_1_2 = Cond.eq .result (.int 1) from rfl, Cond.eq_ints (x := 1) (y := 1) rfl rfl]; simp; done) | (simp [limb_1_2, Cond.value, Term.eval]; done)))⟩
end
