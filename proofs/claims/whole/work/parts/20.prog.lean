/-! ===== THE PROGRAM as the small machine reads it: printed by a program out of the claim (methods, fields, calls; behind each the place of its word in lw_tbl) ===== -/
def gT0 : u_T := fun k => match k with
  | 0 => ("GrainHost", "kinds", "[LGrainHost$Kind;", true)
  | 1 => ("GrainHost", "grains", "[LGrainHost$Grain;", true)
  | 2 => ("GrainHost", "outsides", "[LGrainHost$Outside;", true)
  | 3 => ("GrainHost", "requests", "LGrainHost$Requests;", true)
  | 4 => ("GrainHost", "queue", "LGrainHost$Line;", true)
  | 5 => ("GrainHost", "toSettle", "[LGrainHost$Grain;", true)
  | 6 => ("GrainHost", "byNumber", "[LGrainHost$Request;", true)
  | 7 => ("GrainHost", "outsideCalls", "I", false)
  | 8 => ("GrainHost", "clock", "I", false)
  | 9 => ("GrainHost", "limit", "I", false)
  | 10 => ("GrainHost", "age", "I", false)
  | 11 => ("GrainHost", "storeFails", "I", false)
  | 12 => ("GrainHost", "turns", "I", false)
  | _ => ("GrainHost", "arrivals", "I", false)
def gY0 : Nat → FieldType := fun k => match k with
  | 0 => (.array (.object "GrainHost$Kind"))
  | 1 => (.array (.object "GrainHost$Grain"))
  | 2 => (.array (.object "GrainHost$Outside"))
  | 3 => (.object "GrainHost$Requests")
  | 4 => (.object "GrainHost$Line")
  | 5 => (.array (.object "GrainHost$Grain"))
  | 6 => (.array (.object "GrainHost$Request"))
  | 7 => .int
  | 8 => .int
  | 9 => .int
  | 10 => .int
  | 11 => .int
  | 12 => .int
  | _ => .int
def gT1 : u_T := fun k => match k with
  | 0 => ("GrainHost$Kind", "methods", "[LGrainHost$Method;", true)
  | 1 => ("GrainHost$Kind", "reentrant", "Z", false)
  | _ => ("GrainHost$Kind", "kept", "Z", false)
def gY1 : Nat → FieldType := fun k => match k with
  | 0 => (.array (.object "GrainHost$Method"))
  | 1 => .boolean
  | _ => .boolean
def gT2 : u_T := fun k => match k with
  | 0 => ("GrainHost$Method", "ops", "[I", true)
  | 1 => ("GrainHost$Method", "as", "[I", true)
  | 2 => ("GrainHost$Method", "bs", "[I", true)
  | 3 => ("GrainHost$Method", "size", "I", false)
  | 4 => ("GrainHost$Method", "open", "Z", false)
  | _ => ("GrainHost$Method", "reading", "Z", false)
def gY2 : Nat → FieldType := fun k => match k with
  | 0 => (.array .int)
  | 1 => (.array .int)
  | 2 => (.array .int)
  | 3 => .int
  | 4 => .boolean
  | _ => .boolean
def gT3 : u_T := fun k => match k with
  | 0 => ("GrainHost$Grain", "number", "I", true)
  | 1 => ("GrainHost$Grain", "kind", "LGrainHost$Kind;", true)
  | 2 => ("GrainHost$Grain", "phase", "I", false)
  | 3 => ("GrainHost$Grain", "leaving", "Z", false)
  | 4 => ("GrainHost$Grain", "state", "I", false)
  | 5 => ("GrainHost$Grain", "timer", "I", false)
  | 6 => ("GrainHost$Grain", "idle", "I", false)
  | 7 => ("GrainHost$Grain", "reminder", "I", false)
  | 8 => ("GrainHost$Grain", "toReminder", "I", false)
  | 9 => ("GrainHost$Grain", "stored", "I", false)
  | _ => ("GrainHost$Grain", "timesStored", "I", false)
def gY3 : Nat → FieldType := fun k => match k with
  | 0 => .int
  | 1 => (.object "GrainHost$Kind")
  | 2 => .int
  | 3 => .boolean
  | 4 => .int
  | 5 => .int
  | 6 => .int
  | 7 => .int
  | 8 => .int
  | 9 => .int
  | _ => .int
def gT4 : u_T := fun k => match k with
  | 0 => ("GrainHost$Request", "number", "I", false)
  | 1 => ("GrainHost$Request", "grain", "LGrainHost$Grain;", false)
  | 2 => ("GrainHost$Request", "methodNumber", "I", false)
  | 3 => ("GrainHost$Request", "method", "LGrainHost$Method;", false)
  | 4 => ("GrainHost$Request", "arg", "I", false)
  | 5 => ("GrainHost$Request", "phase", "I", false)
  | 6 => ("GrainHost$Request", "\x72", "I", false)
  | 7 => ("GrainHost$Request", "next", "I", false)
  | 8 => ("GrainHost$Request", "chain", "I", false)
  | 9 => ("GrainHost$Request", "comesBack", "Z", false)
  | 10 => ("GrainHost$Request", "caller", "LGrainHost$Request;", false)
  | 11 => ("GrainHost$Request", "outside", "LGrainHost$Outside;", false)
  | 12 => ("GrainHost$Request", "awaited", "LGrainHost$Request;", false)
  | _ => ("GrainHost$Request", "awaitTicks", "I", false)
def gY4 : Nat → FieldType := fun k => match k with
  | 0 => .int
  | 1 => (.object "GrainHost$Grain")
  | 2 => .int
  | 3 => (.object "GrainHost$Method")
  | 4 => .int
  | 5 => .int
  | 6 => .int
  | 7 => .int
  | 8 => .int
  | 9 => .boolean
  | 10 => (.object "GrainHost$Request")
  | 11 => (.object "GrainHost$Outside")
  | 12 => (.object "GrainHost$Request")
  | _ => .int
def gT5 : u_T := fun k => match k with
  | 0 => ("GrainHost$Requests", "rows", "[LGrainHost$Request;", true)
  | 1 => ("GrainHost$Requests", "size", "I", false)
  | _ => ("GrainHost$Requests", "made", "I", false)
def gY5 : Nat → FieldType := fun k => match k with
  | 0 => (.array (.object "GrainHost$Request"))
  | 1 => .int
  | _ => .int
def gT6 : u_T := fun k => match k with
  | 0 => ("GrainHost$Line", "entries", "[I", true)
  | 1 => ("GrainHost$Line", "first", "I", false)
  | _ => ("GrainHost$Line", "size", "I", false)
def gY6 : Nat → FieldType := fun k => match k with
  | 0 => (.array .int)
  | 1 => .int
  | _ => .int
def gT7 : u_T := fun k => match k with
  | 0 => ("GrainHost$Outside", "phase", "I", false)
  | 1 => ("GrainHost$Outside", "value", "I", false)
  | 2 => ("GrainHost$Outside", "number", "I", false)
  | _ => ("GrainHost$Outside", "ticks", "I", false)
def gY7 : Nat → FieldType := fun k => match k with
  | 0 => .int
  | 1 => .int
  | 2 => .int
  | _ => .int
def gT8 : u_T := fun k => match k with
  | 0 => ("GrainHostModel", "reentrant", "[Z", true)
  | 1 => ("GrainHostModel", "kept", "[Z", true)
  | 2 => ("GrainHostModel", "open", "[Z", true)
  | 3 => ("GrainHostModel", "reading", "[Z", true)
  | 4 => ("GrainHostModel", "length", "[I", true)
  | 5 => ("GrainHostModel", "ops", "[I", true)
  | 6 => ("GrainHostModel", "as", "[I", true)
  | 7 => ("GrainHostModel", "bs", "[I", true)
  | 8 => ("GrainHostModel", "status", "[I", true)
  | 9 => ("GrainHostModel", "value", "[I", true)
  | 10 => ("GrainHostModel", "timer", "[I", true)
  | 11 => ("GrainHostModel", "idle", "[I", true)
  | 12 => ("GrainHostModel", "store", "[I", true)
  | 13 => ("GrainHostModel", "stored", "[I", true)
  | 14 => ("GrainHostModel", "due", "[I", true)
  | 15 => ("GrainHostModel", "every", "[I", true)
  | 16 => ("GrainHostModel", "leaving", "[Z", true)
  | 17 => ("GrainHostModel", "number", "[I", true)
  | 18 => ("GrainHostModel", "where", "[I", true)
  | 19 => ("GrainHostModel", "method", "[I", true)
  | 20 => ("GrainHostModel", "arg", "[I", true)
  | 21 => ("GrainHostModel", "own", "[I", true)
  | 22 => ("GrainHostModel", "at", "[I", true)
  | 23 => ("GrainHostModel", "stands", "[I", true)
  | 24 => ("GrainHostModel", "awaits", "[I", true)
  | 25 => ("GrainHostModel", "ticks", "[I", true)
  | 26 => ("GrainHostModel", "caller", "[I", true)
  | 27 => ("GrainHostModel", "from", "[I", true)
  | 28 => ("GrainHostModel", "requests", "I", false)
  | 29 => ("GrainHostModel", "made", "I", false)
  | 30 => ("GrainHostModel", "line", "[I", true)
  | 31 => ("GrainHostModel", "waiting", "I", false)
  | 32 => ("GrainHostModel", "outStatus", "[I", true)
  | 33 => ("GrainHostModel", "outValue", "[I", true)
  | 34 => ("GrainHostModel", "outRequest", "[I", true)
  | 35 => ("GrainHostModel", "outTicks", "[I", true)
  | 36 => ("GrainHostModel", "outs", "I", false)
  | 37 => ("GrainHostModel", "limit", "I", false)
  | 38 => ("GrainHostModel", "age", "I", false)
  | 39 => ("GrainHostModel", "clock", "I", false)
  | 40 => ("GrainHostModel", "turns", "I", false)
  | 41 => ("GrainHostModel", "came", "I", false)
  | 42 => ("GrainHostModel", "broken", "I", false)
  | 43 => ("GrainHostModel", "behind", "[I", true)
  | 44 => ("GrainHostModel", "told", "I", false)
  | _ => ("GrainHostModel", "last", "I", false)
def gY8 : Nat → FieldType := fun k => match k with
  | 0 => (.array .boolean)
  | 1 => (.array .boolean)
  | 2 => (.array .boolean)
  | 3 => (.array .boolean)
  | 4 => (.array .int)
  | 5 => (.array .int)
  | 6 => (.array .int)
  | 7 => (.array .int)
  | 8 => (.array .int)
  | 9 => (.array .int)
  | 10 => (.array .int)
  | 11 => (.array .int)
  | 12 => (.array .int)
  | 13 => (.array .int)
  | 14 => (.array .int)
  | 15 => (.array .int)
  | 16 => (.array .boolean)
  | 17 => (.array .int)
  | 18 => (.array .int)
  | 19 => (.array .int)
  | 20 => (.array .int)
  | 21 => (.array .int)
  | 22 => (.array .int)
  | 23 => (.array .int)
  | 24 => (.array .int)
  | 25 => (.array .int)
  | 26 => (.array .int)
  | 27 => (.array .int)
  | 28 => .int
  | 29 => .int
  | 30 => (.array .int)
  | 31 => .int
  | 32 => (.array .int)
  | 33 => (.array .int)
  | 34 => (.array .int)
  | 35 => (.array .int)
  | 36 => .int
  | 37 => .int
  | 38 => .int
  | 39 => .int
  | 40 => .int
  | 41 => .int
  | 42 => .int
  | 43 => (.array .int)
  | 44 => .int
  | _ => .int
def gw_cls : List (vw_C × (Nat → FieldType)) := [(("GrainHost", gT0, 14), gY0), (("GrainHost$Kind", gT1, 3), gY1), (("GrainHost$Method", gT2, 6), gY2), (("GrainHost$Grain", gT3, 11), gY3), (("GrainHost$Request", gT4, 14), gY4), (("GrainHost$Requests", gT5, 3), gY5), (("GrainHost$Line", gT6, 3), gY6), (("GrainHost$Outside", gT7, 4), gY7), (("GrainHostModel", gT8, 46), gY8)]
def gw_tys : List (FieldType × Nat) := [(.int, 999), (.boolean, 999), (.object "GrainHost$Kind", 1), (.object "GrainHost$Grain", 3), (.object "GrainHost$Outside", 7), (.object "GrainHost$Request", 4), (.object "GrainHost$Method", 2)]
def gw_ms : List jv_M := [
  (⟨"GrainHost", "<init>", "()V"⟩, prog_1_method_1_code, 2, none, 0, 3, 61),
  (⟨"GrainHost$Requests", "<init>", "()V"⟩, prog_8_method_1_code, 2, none, 5, 2, 40),
  (⟨"GrainHost$Request", "<init>", "()V"⟩, prog_7_method_1_code, 1, none, 4, 1, 20),
  (⟨"GrainHost$Line", "<init>", "()V"⟩, prog_4_method_1_code, 1, none, 6, 1, 20),
  (⟨"GrainHost$Kind", "<init>", "()V"⟩, prog_3_method_1_code, 2, none, 1, 2, 40),
  (⟨"GrainHost$Method", "<init>", "()V"⟩, prog_5_method_1_code, 1, none, 2, 1, 20),
  (⟨"GrainHost$Grain", "<init>", "(ILGrainHost$Kind;)V"⟩, prog_2_method_1_code, 3, none, 3, 1, 20),
  (⟨"GrainHost$Outside", "<init>", "()V"⟩, prog_6_method_1_code, 1, none, 7, 1, 20),
  (⟨"GrainHost", "kind", "(IZZ)Z"⟩, prog_1_method_2_code, 4, (some .boolean), 0, 1, 22),
  (⟨"GrainHost", "isWithin", "(III)Z"⟩, prog_1_method_17_code, 3, (some .boolean), 0, 0, 0),
  (⟨"GrainHost", "method", "(IIZZ)I"⟩, prog_1_method_3_code, 7, (some .int), 0, 2, 43),
  (⟨"GrainHost", "isMethod", "(II)Z"⟩, prog_1_method_18_code, 2, (some .boolean), 0, 1, 22),
  (⟨"GrainHost", "step", "(IIIII)I"⟩, prog_1_method_4_code, 7, (some .int), 0, 2, 44),
  (⟨"GrainHost", "isStep", "(III)Z"⟩, prog_1_method_19_code, 3, (some .boolean), 0, 1, 22),
  (⟨"GrainHost$Method", "add", "(III)V"⟩, prog_5_method_2_code, 4, none, 2, 0, 0),
  (⟨"GrainHost", "limits", "(II)Z"⟩, prog_1_method_5_code, 3, (some .boolean), 0, 1, 22),
  (⟨"GrainHost", "fails", "(I)I"⟩, prog_1_method_6_code, 3, (some .int), 0, 1, 22),
  (⟨"GrainHost", "call", "(III)I"⟩, prog_1_method_7_code, 6, (some .int), 0, 4, 96),
  (⟨"GrainHost$Requests", "isFull", "()Z"⟩, prog_8_method_2_code, 1, (some .boolean), 5, 0, 0),
  (⟨"GrainHost", "make", "(LGrainHost$Grain;III)LGrainHost$Request;"⟩, prog_1_method_21_code, 6, (some (.object "GrainHost$Request")), 0, 3, 71),
  (⟨"GrainHost$Requests", "add", "(LGrainHost$Grain;III)LGrainHost$Request;"⟩, prog_8_method_3_code, 6, (some (.object "GrainHost$Request")), 5, 2, 46),
  (⟨"GrainHost$Request", "begin", "(ILGrainHost$Grain;III)V"⟩, prog_7_method_2_code, 7, none, 4, 1, 20),
  (⟨"GrainHost$Request", "awaitNothing", "()V"⟩, prog_7_method_4_code, 1, none, 4, 0, 0),
  (⟨"GrainHost$Line", "add", "(I)V"⟩, prog_4_method_2_code, 2, none, 6, 0, 0),
  (⟨"GrainHost", "lookAt", "(LGrainHost$Grain;)V"⟩, prog_1_method_22_code, 4, none, 0, 1, 25),
  (⟨"GrainHost$Requests", "mayBegin", "(LGrainHost$Request;)Z"⟩, prog_8_method_10_code, 6, (some .boolean), 5, 0, 0),
  (⟨"GrainHost$Outside", "open", "(I)V"⟩, prog_6_method_2_code, 2, none, 7, 0, 0),
  (⟨"GrainHost", "forget", "()I"⟩, prog_1_method_8_code, 2, (some .int), 0, 0, 0),
  (⟨"GrainHost", "run", "(I)I"⟩, prog_1_method_9_code, 4, (some .int), 0, 7, 170),
  (⟨"GrainHost$Line", "take", "()I"⟩, prog_4_method_3_code, 2, (some .int), 6, 0, 0),
  (⟨"GrainHost", "arrive", "(LGrainHost$Grain;)V"⟩, prog_1_method_23_code, 2, none, 0, 6, 133),
  (⟨"GrainHost", "storeWorks", "()Z"⟩, prog_1_method_36_code, 1, (some .boolean), 0, 0, 0),
  (⟨"GrainHost$Grain", "vanish", "()V"⟩, prog_2_method_3_code, 1, none, 3, 0, 0),
  (⟨"GrainHost", "failWaiting", "(LGrainHost$Grain;)V"⟩, prog_1_method_24_code, 5, none, 0, 5, 109),
  (⟨"GrainHost", "copyByNumber", "()I"⟩, prog_1_method_25_code, 2, (some .int), 0, 0, 0),
  (⟨"GrainHost", "end", "(LGrainHost$Request;II)V"⟩, prog_1_method_30_code, 7, none, 0, 4, 83),
  (⟨"GrainHost$Requests", "remove", "(LGrainHost$Request;)V"⟩, prog_8_method_4_code, 4, none, 5, 0, 0),
  (⟨"GrainHost", "tellCaller", "(LGrainHost$Request;II)LGrainHost$Request;"⟩, prog_1_method_31_code, 5, (some (.object "GrainHost$Request")), 0, 2, 44),
  (⟨"GrainHost", "goOn", "(LGrainHost$Request;II)Z"⟩, prog_1_method_32_code, 4, (some .boolean), 0, 1, 21),
  (⟨"GrainHost$Request", "catches", "(I)Z"⟩, prog_7_method_5_code, 2, (some .boolean), 4, 0, 0),
  (⟨"GrainHost$Outside", "tell", "(II)V"⟩, prog_6_method_3_code, 3, none, 7, 0, 0),
  (⟨"GrainHost", "settle", "(LGrainHost$Grain;)V"⟩, prog_1_method_33_code, 2, none, 0, 3, 62),
  (⟨"GrainHost$Requests", "noneAt", "(LGrainHost$Grain;)Z"⟩, prog_8_method_9_code, 3, (some .boolean), 5, 0, 0),
  (⟨"GrainHost", "go", "(LGrainHost$Grain;)V"⟩, prog_1_method_34_code, 2, none, 0, 2, 41),
  (⟨"GrainHost", "store", "(LGrainHost$Grain;)Z"⟩, prog_1_method_35_code, 2, (some .boolean), 0, 1, 20),
  (⟨"GrainHost$Grain", "come", "()V"⟩, prog_2_method_2_code, 1, none, 3, 1, 20),
  (⟨"GrainHost$Requests", "find", "(I)LGrainHost$Request;"⟩, prog_8_method_6_code, 3, (some (.object "GrainHost$Request")), 5, 0, 0),
  (⟨"GrainHost", "doSteps", "(LGrainHost$Request;)V"⟩, prog_1_method_26_code, 6, none, 0, 6, 145),
  (⟨"GrainHost", "doStep", "(LGrainHost$Request;III)I"⟩, prog_1_method_27_code, 6, (some .int), 0, 5, 120),
  (⟨"GrainHost", "sendCall", "(LGrainHost$Request;LGrainHost$Grain;I)I"⟩, prog_1_method_28_code, 5, (some .int), 0, 4, 96),
  (⟨"GrainHost$Request", "await", "(LGrainHost$Request;)V"⟩, prog_7_method_3_code, 2, none, 4, 0, 0),
  (⟨"GrainHost", "sendTell", "(LGrainHost$Request;LGrainHost$Grain;I)I"⟩, prog_1_method_29_code, 4, (some .int), 0, 4, 96),
  (⟨"GrainHost$Grain", "remindEach", "(I)V"⟩, prog_2_method_4_code, 2, none, 3, 0, 0),
  (⟨"GrainHost", "tick", "(I)I"⟩, prog_1_method_10_code, 3, (some .int), 0, 6, 140),
  (⟨"GrainHost", "ringTimers", "()V"⟩, prog_1_method_37_code, 3, none, 0, 5, 118),
  (⟨"GrainHost", "wake", "(LGrainHost$Grain;I)V"⟩, prog_1_method_39_code, 3, none, 0, 4, 96),
  (⟨"GrainHost", "ringReminders", "()V"⟩, prog_1_method_38_code, 3, none, 0, 5, 118),
  (⟨"GrainHost", "endLateAwaits", "()V"⟩, prog_1_method_41_code, 4, none, 0, 5, 109),
  (⟨"GrainHost", "isLate", "(I)Z"⟩, prog_1_method_40_code, 2, (some .boolean), 0, 0, 0),
  (⟨"GrainHost", "goOnLate", "(LGrainHost$Request;)Z"⟩, prog_1_method_42_code, 2, (some .boolean), 0, 2, 44),
  (⟨"GrainHost", "endLateOutsides", "()V"⟩, prog_1_method_43_code, 3, none, 0, 2, 44),
  (⟨"GrainHost", "endOutside", "(LGrainHost$Outside;)V"⟩, prog_1_method_44_code, 3, none, 0, 1, 22),
  (⟨"GrainHost", "dropIdleGrains", "()V"⟩, prog_1_method_45_code, 3, none, 0, 3, 62),
  (⟨"GrainHost", "restart", "()I"⟩, prog_1_method_11_code, 3, (some .int), 0, 1, 22),
  (⟨"GrainHost$Requests", "clear", "()V"⟩, prog_8_method_5_code, 2, none, 5, 0, 0),
  (⟨"GrainHost$Line", "clear", "()V"⟩, prog_4_method_5_code, 1, none, 6, 0, 0),
  (⟨"GrainHost", "ask", "(II)J"⟩, prog_1_method_12_code, 4, (some .long), 0, 1, 22),
  (⟨"GrainHost", "grain", "(II)I"⟩, prog_1_method_13_code, 4, (some .int), 0, 1, 23),
  (⟨"GrainHost$Requests", "begunAt", "(LGrainHost$Grain;)I"⟩, prog_8_method_7_code, 4, (some .int), 5, 0, 0),
  (⟨"GrainHost$Requests", "waitingAt", "(LGrainHost$Grain;)I"⟩, prog_8_method_8_code, 4, (some .int), 5, 0, 0),
  (⟨"GrainHost", "request", "(II)I"⟩, prog_1_method_14_code, 4, (some .int), 0, 1, 22),
  (⟨"java/lang/Integer", "bitCount", "(I)I"⟩, prog_11_method_49_code, 1, (some .int), 998, 0, 0),
  (⟨"GrainHost", "line", "(I)I"⟩, prog_1_method_15_code, 2, (some .int), 0, 1, 22),
  (⟨"GrainHost$Line", "at", "(I)I"⟩, prog_4_method_4_code, 2, (some .int), 6, 0, 0),
  (⟨"GrainHost", "count", "(I)I"⟩, prog_1_method_16_code, 2, (some .int), 0, 1, 22),
  (⟨"GrainHost", "grainsHere", "()I"⟩, prog_1_method_20_code, 3, (some .int), 0, 0, 0),
  (⟨"GrainHostModel", "<init>", "()V"⟩, prog_10_method_1_code, 1, none, 8, 1, 20),
  (⟨"GrainHostModel", "kind", "(IZZ)Z"⟩, prog_10_method_3_code, 4, (some .boolean), 8, 1, 21),
  (⟨"GrainHostModel", "in", "(II)Z"⟩, prog_10_method_2_code, 2, (some .boolean), 8, 0, 0),
  (⟨"GrainHostModel", "method", "(IIZZ)I"⟩, prog_10_method_4_code, 6, (some .int), 8, 1, 21),
  (⟨"GrainHostModel", "step", "(IIIII)I"⟩, prog_10_method_5_code, 9, (some .int), 8, 1, 21),
  (⟨"GrainHostModel", "limits", "(II)Z"⟩, prog_10_method_6_code, 3, (some .boolean), 8, 1, 21),
  (⟨"GrainHostModel", "fails", "(I)I"⟩, prog_10_method_7_code, 3, (some .int), 8, 1, 21),
  (⟨"GrainHostModel", "run", "(I)I"⟩, prog_10_method_25_code, 5, (some .int), 8, 5, 124),
  (⟨"GrainHostModel", "come", "(I)V"⟩, prog_10_method_23_code, 4, none, 8, 3, 75),
  (⟨"GrainHostModel", "works", "()Z"⟩, prog_10_method_8_code, 1, (some .boolean), 8, 0, 0),
  (⟨"GrainHostModel", "leave", "(I)V"⟩, prog_10_method_22_code, 2, none, 8, 0, 0),
  (⟨"GrainHostModel", "look", "(I)V"⟩, prog_10_method_13_code, 5, none, 8, 1, 24),
  (⟨"GrainHostModel", "many", "(II)I"⟩, prog_10_method_10_code, 5, (some .int), 8, 0, 0),
  (⟨"GrainHostModel", "allRead", "(I)Z"⟩, prog_10_method_11_code, 3, (some .boolean), 8, 0, 0),
  (⟨"GrainHostModel", "queue", "(I)V"⟩, prog_10_method_12_code, 2, none, 8, 0, 0),
  (⟨"GrainHostModel", "firstAt", "(I)I"⟩, prog_10_method_24_code, 3, (some .int), 8, 0, 0),
  (⟨"GrainHostModel", "over", "(III)V"⟩, prog_10_method_18_code, 8, none, 8, 2, 48),
  (⟨"GrainHostModel", "remove", "(I)V"⟩, prog_10_method_15_code, 3, none, 8, 0, 0),
  (⟨"GrainHostModel", "find", "(I)I"⟩, prog_10_method_9_code, 3, (some .int), 8, 0, 0),
  (⟨"GrainHostModel", "resume", "(III)Z"⟩, prog_10_method_17_code, 4, (some .boolean), 8, 1, 22),
  (⟨"GrainHostModel", "isCatch", "(I)Z"⟩, prog_10_method_16_code, 3, (some .boolean), 8, 0, 0),
  (⟨"GrainHostModel", "isEmpty", "(I)Z"⟩, prog_10_method_19_code, 2, (some .boolean), 8, 1, 24),
  (⟨"GrainHostModel", "go", "(I)V"⟩, prog_10_method_20_code, 2, none, 8, 1, 21),
  (⟨"GrainHostModel", "save", "(I)V"⟩, prog_10_method_21_code, 2, none, 8, 0, 0),
  (⟨"GrainHostModel", "act", "(I)Z"⟩, prog_10_method_26_code, 7, (some .boolean), 8, 4, 98),
  (⟨"GrainHostModel", "invoke", "(III)Z"⟩, prog_10_method_27_code, 4, (some .boolean), 8, 3, 75),
  (⟨"GrainHostModel", "make", "(IIIII)V"⟩, prog_10_method_14_code, 7, none, 8, 2, 48),
  (⟨"GrainHostModel", "tick", "(I)I"⟩, prog_10_method_28_code, 4, (some .int), 8, 4, 97),
  (⟨"GrainHostModel", "late", "()V"⟩, prog_10_method_30_code, 3, none, 8, 3, 75),
  (⟨"GrainHostModel", "behindOf", "(I)I"⟩, prog_10_method_29_code, 3, (some .int), 8, 0, 0),
  (⟨"GrainHostModel", "rest", "(I)V"⟩, prog_10_method_31_code, 2, none, 8, 2, 45),
  (⟨"GrainHostModel", "call", "(III)I"⟩, prog_10_method_32_code, 4, (some .int), 8, 3, 74),
  (⟨"GrainHostModel", "forget", "()I"⟩, prog_10_method_33_code, 2, (some .int), 8, 0, 0),
  (⟨"GrainHostModel", "restart", "()I"⟩, prog_10_method_34_code, 3, (some .int), 8, 1, 21),
  (⟨"GrainHostModel", "ask", "(II)J"⟩, prog_10_method_35_code, 3, (some .long), 8, 1, 21),
  (⟨"GrainHostModel", "grain", "(II)I"⟩, prog_10_method_36_code, 3, (some .int), 8, 1, 24),
  (⟨"GrainHostModel", "request", "(II)I"⟩, prog_10_method_38_code, 3, (some .int), 8, 1, 22),
  (⟨"GrainHostModel", "bits", "(I)I"⟩, prog_10_method_37_code, 3, (some .int), 8, 0, 0),
  (⟨"GrainHostModel", "line", "(I)I"⟩, prog_10_method_39_code, 2, (some .int), 8, 1, 21),
  (⟨"GrainHostModel", "count", "(I)I"⟩, prog_10_method_40_code, 4, (some .int), 8, 0, 0),
  (x, code, 4, ret, 998, 8, 193)]
def gw_dm : jv_M := (⟨"", "", ""⟩, ⟨#[]⟩, 0, none, 998, 0, 0)
def gw_m (i : Nat) : jv_M := gw_ms.getD i gw_dm
def gw_mp : List (Nat × Nat × Nat × Nat) := [(86, 72, 85, 0), (100, 73, 99, 0), (107, 74, 106, 0), (187, 75, 186, 0), (205, 76, 204, 0), (212, 77, 211, 0), (258, 78, 257, 0), (310, 79, 309, 0), (375, 72, 373, 374), (378, 72, 377, 0), (382, 72, 380, 381), (385, 72, 384, 0), (389, 72, 387, 388), (392, 72, 391, 0), (396, 77, 395, 0), (400, 72, 398, 399), (404, 72, 402, 403), (408, 72, 406, 407), (412, 73, 411, 1), (416, 72, 415, 2), (420, 73, 419, 3), (424, 74, 423, 4), (428, 74, 427, 5), (432, 75, 431, 6), (436, 72, 435, 7), (440, 73, 439, 8), (444, 79, 443, 9), (448, 72, 446, 447), (452, 72, 450, 451), (456, 75, 455, 10), (460, 72, 459, 11), (464, 72, 463, 12), (468, 78, 467, 13), (472, 72, 471, 14), (476, 72, 475, 15), (480, 72, 479, 16), (484, 73, 483, 17), (488, 72, 487, 18), (492, 72, 491, 19), (497, 74, 496, 20), (501, 79, 500, 21), (505, 72, 504, 22), (509, 73, 508, 23), (513, 72, 512, 24), (517, 72, 516, 25), (521, 78, 520, 26), (526, 73, 525, 27), (530, 72, 529, 28), (534, 72, 533, 29), (538, 72, 537, 30), (542, 74, 541, 31), (546, 72, 545, 32), (550, 78, 549, 33), (554, 72, 552, 553), (558, 72, 557, 34), (562, 72, 561, 35), (566, 72, 565, 36), (570, 72, 569, 37), (574, 72, 573, 38), (578, 72, 577, 39), (582, 72, 581, 40), (586, 72, 585, 41), (590, 72, 589, 42), (594, 72, 592, 593), (598, 73, 597, 43), (602, 75, 601, 44), (606, 72, 604, 605), (611, 72, 609, 610), (615, 73, 614, 45), (619, 73, 618, 46), (623, 72, 621, 622), (626, 81, 625, 0), (633, 72, 631, 632), (637, 75, 636, 47), (641, 72, 639, 640), (645, 72, 644, 48), (650, 80, 649, 0), (795, 80, 793, 794), (798, 80, 797, 0), (802, 80, 800, 801), (806, 80, 804, 805), (810, 80, 808, 809), (814, 80, 812, 813), (818, 80, 816, 817), (822, 80, 821, 49), (826, 80, 825, 50), (830, 80, 829, 51), (834, 80, 833, 52), (838, 80, 837, 53), (842, 80, 841, 54), (846, 80, 845, 55), (850, 80, 849, 56), (854, 80, 853, 57), (858, 80, 857, 58), (862, 80, 861, 59), (866, 80, 865, 60), (870, 80, 869, 61), (874, 80, 873, 62), (878, 80, 877, 63), (882, 80, 881, 64), (886, 80, 885, 65), (890, 80, 889, 66), (894, 80, 893, 67), (898, 80, 896, 897), (902, 80, 901, 68), (906, 80, 905, 69), (910, 80, 909, 70), (914, 80, 912, 913), (918, 80, 916, 917), (922, 80, 920, 921), (926, 80, 924, 925), (931, 80, 929, 930), (935, 80, 933, 934), (938, 80, 937, 0), (942, 80, 940, 941), (946, 80, 944, 945), (0, 0, 0, 0)]
def gw_p (i : Nat) : Nat × Nat × Nat × Nat := gw_mp.getD i (0, 0, 0, 0)
def gw_ft : List ((Nat × Nat) × (Nat × Nat) × Nat) := [((0, 11), (0, 0), 329), ((0, 17), (0, 1), 330), ((0, 23), (0, 2), 331), ((0, 30), (0, 3), 332), ((0, 37), (0, 4), 333), ((0, 41), (0, 5), 334), ((0, 46), (0, 6), 335), ((1, 11), (5, 0), 170), ((2, 11), (4, 5), 122), ((3, 11), (6, 0), 189), ((4, 11), (1, 0), 241), ((5, 9), (2, 0), 214), ((5, 15), (2, 1), 217), ((5, 18), (2, 2), 219), ((6, 7), (3, 0), 260), ((6, 13), (3, 1), 263), ((8, 30), (0, 3), 332), ((8, 59), (5, 1), 173), ((8, 11), (0, 0), 329), ((8, 63), (1, 1), 244), ((8, 67), (1, 2), 247), ((10, 30), (0, 3), 332), ((10, 59), (5, 1), 173), ((10, 11), (0, 0), 329), ((10, 74), (1, 0), 243), ((10, 78), (2, 3), 222), ((10, 81), (2, 4), 224), ((10, 84), (2, 5), 226), ((12, 30), (0, 3), 332), ((12, 59), (5, 1), 173), ((12, 11), (0, 0), 329), ((12, 74), (1, 0), 243), ((12, 78), (2, 3), 222), ((14, 9), (2, 0), 214), ((14, 21), (2, 3), 221), ((14, 15), (2, 1), 217), ((14, 18), (2, 2), 219), ((15, 94), (0, 9), 338), ((15, 97), (0, 10), 339), ((16, 100), (0, 11), 340), ((17, 103), (0, 7), 336), ((17, 30), (0, 3), 332), ((17, 23), (0, 2), 331), ((17, 17), (0, 1), 330), ((17, 114), (4, 11), 136), ((17, 118), (4, 0), 111), ((18, 18), (5, 1), 172), ((19, 30), (0, 3), 332), ((19, 199), (3, 6), 276), ((19, 185), (3, 2), 268), ((19, 37), (0, 4), 333), ((19, 222), (3, 0), 262), ((20, 11), (5, 0), 170), ((20, 18), (5, 1), 172), ((20, 22), (5, 2), 174), ((21, 15), (3, 0), 261), ((21, 20), (4, 0), 109), ((21, 21), (4, 1), 112), ((21, 25), (4, 2), 115), ((21, 28), (3, 1), 264), ((21, 32), (1, 0), 242), ((21, 38), (4, 3), 117), ((21, 42), (4, 4), 120), ((21, 11), (4, 5), 122), ((21, 45), (4, 6), 125), ((21, 48), (4, 7), 127), ((21, 51), (4, 8), 129), ((21, 54), (4, 9), 131), ((21, 58), (4, 10), 133), ((21, 62), (4, 11), 135), ((22, 69), (4, 12), 137), ((22, 72), (4, 13), 139), ((23, 15), (6, 2), 191), ((23, 11), (6, 0), 189), ((23, 19), (6, 1), 190), ((24, 30), (0, 3), 332), ((24, 59), (5, 1), 173), ((24, 214), (5, 0), 171), ((24, 218), (4, 1), 114), ((24, 217), (4, 5), 124), ((24, 37), (0, 4), 333), ((24, 118), (4, 0), 111), ((25, 39), (4, 3), 118), ((25, 35), (4, 1), 113), ((25, 43), (3, 1), 265), ((25, 49), (1, 1), 245), ((25, 55), (2, 4), 225), ((25, 60), (4, 9), 132), ((25, 18), (5, 1), 172), ((25, 11), (5, 0), 170), ((25, 29), (4, 5), 123), ((25, 63), (2, 5), 227), ((26, 11), (7, 0), 312), ((26, 15), (7, 1), 314), ((26, 18), (7, 2), 316), ((26, 21), (7, 3), 318), ((27, 103), (0, 7), 336), ((27, 23), (0, 2), 331), ((27, 124), (7, 0), 313), ((28, 37), (0, 4), 333), ((28, 127), (6, 2), 192), ((28, 17), (0, 1), 330), ((28, 30), (0, 3), 332), ((28, 144), (0, 12), 341), ((29, 11), (6, 0), 189), ((29, 19), (6, 1), 190), ((29, 15), (6, 2), 191), ((30, 274), (3, 1), 266), ((30, 67), (1, 2), 247), ((30, 260), (0, 13), 342), ((31, 100), (0, 11), 340), ((32, 20), (3, 2), 267), ((32, 35), (3, 3), 269), ((32, 32), (3, 4), 271), ((32, 38), (3, 5), 273), ((32, 41), (3, 6), 275), ((33, 46), (0, 6), 335), ((33, 218), (4, 1), 114), ((33, 217), (4, 5), 124), ((34, 30), (0, 3), 332), ((34, 59), (5, 1), 173), ((34, 46), (0, 6), 335), ((34, 214), (5, 0), 171), ((35, 41), (0, 5), 334), ((35, 218), (4, 1), 114), ((35, 30), (0, 3), 332), ((36, 18), (5, 1), 172), ((36, 11), (5, 0), 170), ((36, 29), (4, 5), 123), ((37, 330), (4, 10), 134), ((37, 114), (4, 11), 136), ((38, 229), (4, 6), 126), ((38, 217), (4, 5), 124), ((38, 37), (0, 4), 333), ((38, 118), (4, 0), 111), ((39, 48), (4, 7), 127), ((39, 38), (4, 3), 117), ((39, 75), (2, 3), 223), ((39, 80), (2, 0), 215), ((39, 45), (4, 6), 125), ((40, 11), (7, 0), 312), ((40, 15), (7, 1), 314), ((41, 185), (3, 2), 268), ((41, 182), (3, 3), 270), ((41, 30), (0, 3), 332), ((42, 18), (5, 1), 172), ((42, 11), (5, 0), 170), ((42, 35), (4, 1), 113), ((43, 274), (3, 1), 266), ((43, 67), (1, 2), 247), ((44, 186), (3, 4), 272), ((44, 202), (3, 9), 282), ((44, 205), (3, 10), 283), ((45, 20), (3, 2), 267), ((45, 13), (3, 1), 263), ((45, 23), (1, 2), 246), ((45, 29), (3, 9), 281), ((45, 32), (3, 4), 271), ((46, 18), (5, 1), 172), ((46, 11), (5, 0), 170), ((46, 32), (4, 0), 110), ((47, 294), (4, 3), 119), ((47, 232), (4, 7), 128), ((47, 78), (2, 3), 222), ((47, 298), (2, 0), 216), ((47, 302), (2, 1), 218), ((47, 305), (2, 2), 220), ((47, 218), (4, 1), 114), ((47, 186), (3, 4), 272), ((48, 218), (4, 1), 114), ((48, 186), (3, 4), 272), ((48, 226), (4, 4), 121), ((48, 229), (4, 6), 126), ((48, 17), (0, 1), 330), ((48, 37), (0, 4), 333), ((48, 118), (4, 0), 111), ((48, 196), (3, 5), 274), ((48, 182), (3, 3), 270), ((48, 232), (4, 7), 128), ((49, 30), (0, 3), 332), ((49, 218), (4, 1), 114), ((49, 186), (3, 4), 272), ((49, 242), (4, 8), 130), ((49, 330), (4, 10), 134), ((50, 11), (4, 5), 122), ((50, 69), (4, 12), 137), ((51, 30), (0, 3), 332), ((51, 218), (4, 1), 114), ((51, 186), (3, 4), 272), ((52, 44), (3, 7), 277), ((52, 47), (3, 8), 279), ((53, 147), (0, 8), 337), ((54, 17), (0, 1), 330), ((54, 196), (3, 5), 274), ((55, 30), (0, 3), 332), ((56, 17), (0, 1), 330), ((56, 208), (3, 8), 280), ((56, 211), (3, 7), 278), ((57, 46), (0, 6), 335), ((57, 217), (4, 5), 124), ((57, 239), (4, 13), 140), ((58, 94), (0, 9), 338), ((59, 235), (4, 12), 138), ((59, 330), (4, 10), 134), ((60, 103), (0, 7), 336), ((60, 23), (0, 2), 331), ((60, 124), (7, 0), 313), ((60, 369), (7, 3), 319), ((61, 30), (0, 3), 332), ((61, 181), (7, 2), 317), ((61, 114), (4, 11), 136), ((62, 17), (0, 1), 330), ((62, 185), (3, 2), 268), ((62, 30), (0, 3), 332), ((62, 199), (3, 6), 276), ((62, 97), (0, 10), 339), ((63, 30), (0, 3), 332), ((63, 59), (5, 1), 173), ((63, 37), (0, 4), 333), ((63, 17), (0, 1), 330), ((63, 103), (0, 7), 336), ((63, 23), (0, 2), 331), ((64, 18), (5, 1), 172), ((64, 11), (5, 0), 170), ((64, 29), (4, 5), 123), ((65, 15), (6, 2), 191), ((66, 103), (0, 7), 336), ((66, 23), (0, 2), 331), ((66, 124), (7, 0), 313), ((66, 178), (7, 1), 315), ((66, 181), (7, 2), 317), ((67, 17), (0, 1), 330), ((67, 182), (3, 3), 270), ((67, 185), (3, 2), 268), ((67, 186), (3, 4), 272), ((67, 30), (0, 3), 332), ((67, 196), (3, 5), 274), ((67, 199), (3, 6), 276), ((67, 202), (3, 9), 282), ((67, 205), (3, 10), 283), ((67, 208), (3, 8), 280), ((67, 211), (3, 7), 278), ((68, 18), (5, 1), 172), ((68, 11), (5, 0), 170), ((68, 35), (4, 1), 113), ((68, 29), (4, 5), 123), ((69, 18), (5, 1), 172), ((69, 11), (5, 0), 170), ((69, 35), (4, 1), 113), ((69, 29), (4, 5), 123), ((70, 30), (0, 3), 332), ((70, 59), (5, 1), 173), ((70, 214), (5, 0), 171), ((70, 118), (4, 0), 111), ((70, 217), (4, 5), 124), ((70, 218), (4, 1), 114), ((70, 222), (3, 0), 262), ((70, 223), (4, 2), 116), ((70, 226), (4, 4), 121), ((70, 229), (4, 6), 126), ((70, 232), (4, 7), 128), ((70, 235), (4, 12), 138), ((70, 239), (4, 13), 140), ((70, 242), (4, 8), 130), ((72, 37), (0, 4), 333), ((72, 127), (6, 2), 192), ((73, 11), (6, 0), 189), ((73, 19), (6, 1), 190), ((74, 147), (0, 8), 337), ((74, 30), (0, 3), 332), ((74, 254), (5, 2), 175), ((74, 59), (5, 1), 173), ((74, 144), (0, 12), 341), ((74, 260), (0, 13), 342), ((74, 37), (0, 4), 333), ((74, 127), (6, 2), 192), ((74, 103), (0, 7), 336), ((74, 100), (0, 11), 340), ((75, 17), (0, 1), 330), ((75, 185), (3, 2), 268), ((76, 7), (8, 0), 652), ((76, 13), (8, 1), 653), ((76, 16), (8, 2), 654), ((76, 19), (8, 3), 655), ((76, 22), (8, 4), 656), ((76, 26), (8, 5), 657), ((76, 29), (8, 6), 658), ((76, 32), (8, 7), 659), ((76, 35), (8, 8), 660), ((76, 38), (8, 9), 661), ((76, 41), (8, 10), 662), ((76, 44), (8, 11), 663), ((76, 47), (8, 12), 664), ((76, 50), (8, 13), 665), ((76, 53), (8, 14), 666), ((76, 56), (8, 15), 667), ((76, 59), (8, 16), 668), ((76, 62), (8, 17), 669), ((76, 65), (8, 18), 670), ((76, 68), (8, 19), 671), ((76, 71), (8, 20), 672), ((76, 74), (8, 21), 673), ((76, 77), (8, 22), 674), ((76, 80), (8, 23), 675), ((76, 83), (8, 24), 676), ((76, 86), (8, 25), 677), ((76, 89), (8, 26), 678), ((76, 92), (8, 27), 679), ((76, 95), (8, 30), 682), ((76, 98), (8, 32), 684), ((76, 101), (8, 33), 685), ((76, 104), (8, 34), 686), ((76, 107), (8, 35), 687), ((76, 110), (8, 43), 695), ((77, 117), (8, 28), 680), ((77, 7), (8, 0), 652), ((77, 13), (8, 1), 653), ((79, 117), (8, 28), 680), ((79, 22), (8, 4), 656), ((79, 16), (8, 2), 654), ((79, 19), (8, 3), 655), ((80, 117), (8, 28), 680), ((80, 22), (8, 4), 656), ((80, 26), (8, 5), 657), ((80, 29), (8, 6), 658), ((80, 32), (8, 7), 659), ((81, 121), (8, 37), 689), ((81, 124), (8, 38), 690), ((82, 127), (8, 42), 694), ((83, 130), (8, 31), 683), ((83, 95), (8, 30), 682), ((83, 200), (8, 40), 692), ((84, 13), (8, 1), 653), ((84, 35), (8, 8), 660), ((84, 38), (8, 9), 661), ((84, 47), (8, 12), 664), ((84, 184), (8, 41), 693), ((85, 127), (8, 42), 694), ((86, 35), (8, 8), 660), ((86, 59), (8, 16), 668), ((86, 41), (8, 10), 662), ((86, 38), (8, 9), 661), ((86, 44), (8, 11), 663), ((87, 35), (8, 8), 660), ((87, 117), (8, 28), 680), ((87, 65), (8, 18), 670), ((87, 80), (8, 23), 675), ((87, 68), (8, 19), 671), ((87, 7), (8, 0), 652), ((87, 16), (8, 2), 654), ((87, 19), (8, 3), 655), ((87, 92), (8, 27), 679), ((87, 62), (8, 17), 669), ((88, 117), (8, 28), 680), ((88, 65), (8, 18), 670), ((88, 80), (8, 23), 675), ((89, 117), (8, 28), 680), ((89, 65), (8, 18), 670), ((89, 80), (8, 23), 675), ((89, 19), (8, 3), 655), ((89, 68), (8, 19), 671), ((90, 95), (8, 30), 682), ((90, 130), (8, 31), 683), ((91, 117), (8, 28), 680), ((91, 65), (8, 18), 670), ((92, 154), (8, 44), 696), ((92, 62), (8, 17), 669), ((92, 89), (8, 26), 678), ((92, 110), (8, 43), 695), ((92, 65), (8, 18), 670), ((92, 98), (8, 32), 684), ((92, 101), (8, 33), 685), ((92, 80), (8, 23), 675), ((92, 83), (8, 24), 676), ((92, 35), (8, 8), 660), ((92, 59), (8, 16), 668), ((93, 117), (8, 28), 680), ((93, 62), (8, 17), 669), ((93, 65), (8, 18), 670), ((93, 68), (8, 19), 671), ((93, 71), (8, 20), 672), ((93, 74), (8, 21), 673), ((93, 77), (8, 22), 674), ((93, 80), (8, 23), 675), ((93, 83), (8, 24), 676), ((93, 86), (8, 25), 677), ((93, 89), (8, 26), 678), ((93, 92), (8, 27), 679), ((94, 117), (8, 28), 680), ((94, 62), (8, 17), 669), ((95, 74), (8, 21), 673), ((95, 77), (8, 22), 674), ((95, 80), (8, 23), 675), ((95, 83), (8, 24), 676), ((95, 86), (8, 25), 677), ((95, 62), (8, 17), 669), ((96, 65), (8, 18), 670), ((96, 68), (8, 19), 671), ((96, 77), (8, 22), 674), ((96, 22), (8, 4), 656), ((96, 26), (8, 5), 657), ((98, 13), (8, 1), 653), ((99, 47), (8, 12), 664), ((99, 38), (8, 9), 661), ((99, 50), (8, 13), 665), ((100, 65), (8, 18), 670), ((100, 68), (8, 19), 671), ((100, 77), (8, 22), 674), ((100, 22), (8, 4), 656), ((100, 38), (8, 9), 661), ((100, 26), (8, 5), 657), ((100, 29), (8, 6), 658), ((100, 32), (8, 7), 659), ((100, 71), (8, 20), 672), ((100, 74), (8, 21), 673), ((100, 117), (8, 28), 680), ((100, 62), (8, 17), 669), ((100, 41), (8, 10), 662), ((100, 56), (8, 15), 667), ((100, 53), (8, 14), 666), ((100, 59), (8, 16), 668), ((101, 117), (8, 28), 680), ((101, 74), (8, 21), 673), ((101, 77), (8, 22), 674), ((101, 80), (8, 23), 675), ((101, 83), (8, 24), 676), ((101, 145), (8, 29), 681), ((101, 86), (8, 25), 677), ((101, 38), (8, 9), 661), ((101, 65), (8, 18), 670), ((101, 62), (8, 17), 669), ((101, 92), (8, 27), 679), ((102, 117), (8, 28), 680), ((102, 62), (8, 17), 669), ((102, 145), (8, 29), 681), ((102, 65), (8, 18), 670), ((102, 68), (8, 19), 671), ((102, 71), (8, 20), 672), ((102, 74), (8, 21), 673), ((102, 77), (8, 22), 674), ((102, 80), (8, 23), 675), ((102, 83), (8, 24), 676), ((102, 86), (8, 25), 677), ((102, 89), (8, 26), 678), ((102, 92), (8, 27), 679), ((102, 44), (8, 11), 663), ((102, 35), (8, 8), 660), ((103, 210), (8, 39), 691), ((103, 41), (8, 10), 662), ((103, 117), (8, 28), 680), ((103, 56), (8, 15), 667), ((103, 53), (8, 14), 666), ((104, 62), (8, 17), 669), ((104, 222), (8, 45), 697), ((104, 80), (8, 23), 675), ((104, 86), (8, 25), 677), ((104, 121), (8, 37), 689), ((104, 83), (8, 24), 676), ((104, 89), (8, 26), 678), ((104, 225), (8, 36), 688), ((104, 98), (8, 32), 684), ((104, 107), (8, 35), 687), ((104, 101), (8, 33), 685), ((104, 104), (8, 34), 686), ((105, 117), (8, 28), 680), ((105, 62), (8, 17), 669), ((106, 35), (8, 8), 660), ((106, 44), (8, 11), 663), ((106, 124), (8, 38), 690), ((107, 225), (8, 36), 688), ((107, 117), (8, 28), 680), ((107, 98), (8, 32), 684), ((107, 101), (8, 33), 685), ((107, 107), (8, 35), 687), ((107, 104), (8, 34), 686), ((107, 145), (8, 29), 681), ((108, 225), (8, 36), 688), ((108, 98), (8, 32), 684), ((109, 117), (8, 28), 680), ((109, 130), (8, 31), 683), ((109, 225), (8, 36), 688), ((109, 98), (8, 32), 684), ((109, 101), (8, 33), 685), ((110, 225), (8, 36), 688), ((110, 98), (8, 32), 684), ((110, 101), (8, 33), 685), ((110, 104), (8, 34), 686), ((111, 35), (8, 8), 660), ((111, 59), (8, 16), 668), ((111, 38), (8, 9), 661), ((111, 41), (8, 10), 662), ((111, 44), (8, 11), 663), ((111, 47), (8, 12), 664), ((111, 50), (8, 13), 665), ((111, 56), (8, 15), 667), ((111, 53), (8, 14), 666), ((112, 117), (8, 28), 680), ((112, 62), (8, 17), 669), ((112, 80), (8, 23), 675), ((112, 65), (8, 18), 670), ((112, 68), (8, 19), 671), ((112, 71), (8, 20), 672), ((112, 74), (8, 21), 673), ((112, 77), (8, 22), 674), ((112, 83), (8, 24), 676), ((112, 86), (8, 25), 677), ((112, 92), (8, 27), 679), ((114, 130), (8, 31), 683), ((114, 95), (8, 30), 682), ((115, 35), (8, 8), 660), ((115, 210), (8, 39), 691), ((115, 145), (8, 29), 681), ((115, 117), (8, 28), 680), ((115, 200), (8, 40), 692), ((115, 184), (8, 41), 693), ((115, 130), (8, 31), 683), ((115, 225), (8, 36), 688), ((115, 127), (8, 42), 694)]
def gw_it : List ((Nat × Nat) × (Nat × Nat × Nat) × Nat) := [((0, 3), (3, 0, 0), 87), ((0, 29), (2, 1, 0), 98), ((0, 36), (2, 3, 0), 185), ((0, 50), (2, 4, 0), 203), ((0, 51), (2, 6, 2), 256), ((0, 54), (2, 7, 0), 308), ((1, 3), (3, 0, 0), 101), ((1, 17), (2, 2, 0), 105), ((2, 3), (3, 0, 0), 108), ((3, 3), (3, 0, 0), 188), ((4, 3), (3, 0, 0), 206), ((4, 17), (2, 5, 0), 210), ((5, 3), (3, 0, 0), 213), ((6, 1), (3, 0, 0), 259), ((7, 3), (3, 0, 0), 311), ((8, 55), (1, 9, 3), 376), ((10, 70), (1, 11, 2), 383), ((11, 55), (1, 9, 3), 376), ((12, 70), (1, 11, 2), 383), ((12, 87), (1, 13, 3), 390), ((12, 90), (0, 14, 3), 393), ((13, 55), (1, 9, 3), 376), ((15, 55), (1, 9, 3), 376), ((16, 55), (1, 9, 3), 376), ((17, 55), (1, 9, 3), 376), ((17, 106), (0, 18, 0), 409), ((17, 110), (0, 19, 4), 413), ((17, 121), (0, 26, 1), 441), ((19, 263), (0, 20, 4), 417), ((19, 265), (0, 23, 1), 429), ((19, 267), (0, 24, 1), 433), ((20, 25), (0, 21, 5), 421), ((21, 66), (0, 22, 0), 425), ((24, 270), (0, 25, 1), 437), ((24, 265), (0, 23, 1), 429), ((28, 55), (1, 9, 3), 376), ((28, 128), (0, 29, 0), 453), ((28, 132), (0, 30, 1), 457), ((28, 136), (0, 46, 1), 523), ((28, 140), (0, 47, 1), 527), ((30, 278), (0, 31, 0), 461), ((30, 169), (0, 32, 0), 465), ((30, 281), (0, 33, 1), 469), ((30, 284), (0, 45, 0), 518), ((30, 267), (0, 24, 1), 433), ((33, 287), (0, 34, 0), 473), ((33, 290), (0, 35, 3), 477), ((35, 336), (0, 36, 1), 481), ((35, 339), (0, 37, 3), 485), ((35, 343), (0, 41, 1), 502), ((37, 346), (0, 38, 3), 489), ((37, 172), (0, 40, 2), 498), ((38, 350), (0, 22, 0), 493), ((38, 326), (0, 39, 1), 494), ((38, 265), (0, 23, 1), 429), ((41, 267), (0, 24, 1), 433), ((41, 353), (0, 42, 1), 506), ((41, 356), (0, 43, 1), 510), ((43, 319), (0, 44, 1), 514), ((43, 169), (0, 32, 0), 465), ((44, 278), (0, 31, 0), 461), ((45, 17), (0, 32, 0), 522), ((47, 308), (0, 48, 4), 531), ((47, 290), (0, 35, 3), 477), ((48, 312), (0, 49, 3), 535), ((48, 316), (0, 51, 3), 543), ((48, 319), (0, 44, 1), 514), ((48, 265), (0, 23, 1), 429), ((48, 323), (0, 52, 1), 547), ((49, 106), (0, 18, 0), 409), ((49, 326), (0, 39, 1), 494), ((49, 110), (0, 19, 4), 413), ((49, 333), (0, 50, 1), 539), ((51, 106), (0, 18, 0), 409), ((51, 110), (0, 19, 4), 413), ((53, 55), (1, 9, 3), 376), ((53, 150), (0, 54, 0), 555), ((53, 153), (0, 56, 0), 563), ((53, 156), (0, 57, 0), 567), ((53, 159), (0, 60, 0), 579), ((53, 162), (0, 62, 0), 587), ((54, 359), (0, 55, 2), 559), ((55, 106), (0, 18, 0), 409), ((55, 110), (0, 19, 4), 413), ((56, 359), (0, 55, 2), 559), ((57, 287), (0, 34, 0), 473), ((57, 363), (0, 58, 1), 571), ((57, 366), (0, 59, 1), 575), ((57, 290), (0, 35, 3), 477), ((59, 346), (0, 38, 3), 489), ((60, 363), (0, 58, 1), 571), ((60, 372), (0, 61, 1), 583), ((61, 136), (0, 46, 1), 523), ((61, 172), (0, 40, 2), 498), ((62, 353), (0, 42, 1), 506), ((62, 356), (0, 43, 1), 510), ((63, 165), (0, 64, 0), 595), ((63, 168), (0, 65, 0), 599), ((63, 169), (0, 32, 0), 465), ((63, 172), (0, 40, 2), 498), ((66, 55), (1, 9, 3), 376), ((67, 55), (1, 9, 3), 376), ((67, 189), (0, 68, 1), 612), ((67, 193), (0, 69, 1), 616), ((70, 55), (1, 9, 3), 376), ((70, 245), (1, 71, 1), 624), ((72, 55), (1, 9, 3), 376), ((72, 251), (0, 73, 1), 634), ((74, 257), (0, 75, 0), 642), ((76, 1), (3, 0, 0), 651), ((77, 113), (1, 78, 2), 796), ((79, 113), (1, 78, 2), 796), ((80, 113), (1, 78, 2), 796), ((81, 113), (1, 78, 2), 796), ((82, 113), (1, 78, 2), 796), ((83, 113), (1, 78, 2), 796), ((83, 194), (0, 84, 1), 819), ((83, 160), (0, 94, 1), 859), ((83, 197), (0, 100, 1), 883), ((84, 174), (0, 85, 0), 823), ((84, 181), (0, 86, 1), 827), ((84, 148), (0, 87, 1), 831), ((84, 187), (0, 91, 1), 847), ((84, 190), (0, 92, 3), 851), ((87, 133), (0, 88, 2), 835), ((87, 137), (0, 89, 1), 839), ((87, 141), (0, 90, 1), 843), ((92, 157), (0, 93, 1), 855), ((92, 160), (0, 94, 1), 859), ((92, 164), (0, 95, 3), 863), ((92, 148), (0, 87, 1), 831), ((92, 168), (0, 97, 1), 871), ((92, 171), (0, 98, 1), 875), ((95, 151), (0, 96, 1), 867), ((95, 141), (0, 90, 1), 843), ((97, 133), (0, 88, 2), 835), ((98, 174), (0, 85, 0), 823), ((98, 178), (0, 99, 1), 879), ((98, 181), (0, 86, 1), 827), ((100, 190), (0, 92, 3), 851), ((100, 203), (0, 101, 3), 887), ((100, 206), (0, 102, 5), 891), ((100, 174), (0, 85, 0), 823), ((100, 178), (0, 99, 1), 879), ((100, 141), (0, 90, 1), 843), ((101, 151), (0, 96, 1), 867), ((101, 190), (0, 92, 3), 851), ((101, 206), (0, 102, 5), 891), ((102, 141), (0, 90, 1), 843), ((102, 148), (0, 87, 1), 831), ((103, 113), (1, 78, 2), 796), ((103, 206), (0, 102, 5), 891), ((103, 213), (0, 104, 0), 899), ((103, 216), (0, 106, 1), 907), ((104, 219), (0, 105, 1), 903), ((104, 160), (0, 94, 1), 859), ((104, 164), (0, 95, 3), 863), ((104, 190), (0, 92, 3), 851), ((106, 168), (0, 97, 1), 871), ((106, 171), (0, 98, 1), 875), ((107, 113), (1, 78, 2), 796), ((107, 206), (0, 102, 5), 891), ((109, 181), (0, 86, 1), 827), ((110, 113), (1, 78, 2), 796), ((111, 113), (1, 78, 2), 796), ((111, 133), (0, 88, 2), 835), ((112, 113), (1, 78, 2), 796), ((112, 230), (1, 113, 1), 936), ((114, 113), (1, 78, 2), 796), ((116, 9), (2, 0, 0), 84), ((116, 12), (2, 76, 0), 648), ((116, 13), (0, 8, 3), 372), ((116, 17), (0, 77, 3), 792), ((116, 18), (0, 10, 4), 379), ((116, 22), (0, 79, 4), 799), ((116, 23), (0, 12, 5), 386), ((116, 27), (0, 80, 5), 803), ((116, 28), (0, 15, 2), 397), ((116, 32), (0, 81, 2), 807), ((116, 33), (0, 16, 1), 401), ((116, 37), (0, 82, 1), 811), ((116, 38), (0, 17, 3), 405), ((116, 42), (0, 107, 3), 911), ((116, 43), (0, 27, 0), 445), ((116, 47), (0, 108, 0), 915), ((116, 48), (0, 28, 1), 449), ((116, 51), (0, 83, 1), 815), ((116, 52), (0, 53, 1), 551), ((116, 55), (0, 103, 1), 895), ((116, 56), (0, 63, 0), 591), ((116, 59), (0, 109, 0), 919), ((116, 60), (0, 66, 2), 603), ((116, 64), (0, 110, 2), 923), ((116, 65), (0, 67, 2), 608), ((116, 69), (0, 111, 2), 928), ((116, 70), (0, 70, 2), 620), ((116, 73), (0, 112, 2), 932), ((116, 74), (0, 72, 1), 630), ((116, 77), (0, 114, 1), 939), ((116, 78), (0, 74, 1), 638), ((116, 81), (0, 115, 1), 943)]
def gw_nt : List ((Nat × Nat) × Nat × Nat) := [((0, 27), 5, 96), ((0, 34), 6, 183), ((0, 9), 1, 90), ((0, 15), 3, 92), ((0, 21), 7, 94), ((1, 9), 4, 102), ((4, 9), 2, 207), ((116, 7), 0, 82), ((116, 10), 8, 646)]
def gw_at : List ((Nat × Nat) × Nat × Nat) := [((0, 9), 2, 90), ((0, 15), 3, 92), ((0, 21), 4, 94), ((0, 44), 5, 201), ((1, 9), 5, 102), ((4, 9), 6, 207)]
def gw_lt : List ((Nat × Nat) × Int32 × Nat) := [((71, 265), 1431655765, 627), ((71, 266), 858993459, 628), ((71, 267), 252645135, 629)]
def gw_gt : List ((Nat × Nat) × Int64 × Nat) := [((66, 176), 1099511627776, 607), ((110, 228), 1099511627776, 927)]
def gw_cp : List (Nat × Nat) := [(83, 72), (202, 76), (209, 77), (255, 78), (104, 74), (97, 73), (184, 75), (307, 79), (647, 80)]
def gw_lp : List (List Nat) := [[343, 345, 347, 349, 351, 353, 355, 357, 359, 361, 363, 365, 367, 369], [248, 250, 252], [228, 230, 232, 234, 236, 238], [284, 286, 288, 290, 292, 294, 296, 298, 300, 302, 304], [141, 143, 145, 147, 149, 151, 153, 155, 157, 159, 161, 163, 165, 167], [176, 178, 180], [193, 195, 197], [320, 322, 324, 326], [698, 700, 702, 704, 706, 708, 710, 712, 714, 716, 718, 720, 722, 724, 726, 728, 730, 732, 734, 736, 738, 740, 742, 744, 746, 748, 750, 752, 754, 756, 758, 760, 762, 764, 766, 768, 770, 772, 774, 776, 778, 780, 782, 784, 786, 788]]
def gw_isN (w : Cond) : Bool := match w with
  | .fieldLinkNest _ _ _ _ _ _ => true
  | .methodLinkNest _ _ _ _ => true
  | _ => false
def gw_ws : List Cond := lw_tbl.filter goodWord
def gw_nw : List Cond := lw_tbl.filter gw_isN
def gw : jv_G := (gw_m, fun mi i => (gw_ft.lookup (mi, i)).map (fun e => e.1), fun mi i => (gw_it.lookup (mi, i)).map (fun e => e.1), fun mi i => (gw_nt.lookup (mi, i)).map (fun e => e.1), fun mi i => (gw_at.lookup (mi, i)).map (fun e => e.1), fun mi i => (gw_lt.lookup (mi, i)).map (fun e => e.1), fun mi i => (gw_gt.lookup (mi, i)).map (fun e => e.1), gw_cls, gw_tys, gw_ws, gw_nw)
theorem gw_in {w : Cond} (i : Nat) (h : lw_tbl[i]? = some w) (hg : goodWord w = true) : w ∈ gw_ws := List.mem_filter.mpr ⟨List.mem_of_getElem? h, hg⟩
theorem gw_inN {w : Cond} (i : Nat) (h : lw_tbl[i]? = some w) (hg : gw_isN w = true) : w ∈ gw_nw := List.mem_filter.mpr ⟨List.mem_of_getElem? h, hg⟩
theorem gw_lk {α β : Type} [BEq α] [LawfulBEq α] {l : List (α × β)} {a : α} {b : β} (h : l.lookup a = some b) : (a, b) ∈ l := by
  induction l with
  | nil => cases h
  | cons q l ih =>
    obtain ⟨a', b'⟩ := q
    rw [List.lookup_cons] at h
    split at h
    · rename_i he
      cases h
      have := eq_of_beq he
      subst this
      exact List.mem_cons_self
    · exact List.mem_cons_of_mem _ (ih h)

