-- ===== PART A: goes FIRST, ahead of the names: the tables' words, and 'selects' of the private methods out of them =====
/-- a private method of a class that the tables say can be made, by its rows of tables_1 -/
def lw_okq (q : MethodName × Nat) : Prop := (q.1.cls ≠ "java/lang/invoke/MethodHandle" ∧ q.1.cls ≠ "java/lang/invoke/VarHandle") ∧ Cond.instantiable q.1.cls q.2 ∈ tables_1 ∧ Cond.privateMethod q.1 ∈ tables_1 ∧ Cond.instanceMethod q.1 ∈ tables_1
theorem lw_p0 : lw_okq (⟨"EvenWords", "sendOne", "(I)I"⟩, 12) := ⟨⟨by decide +kernel, by decide +kernel⟩, List.mem_of_getElem? (i := 10) (by decide +kernel), List.mem_of_getElem? (i := 199) (by decide +kernel), List.mem_of_getElem? (i := 200) (by decide +kernel)⟩
theorem lw_p1 : lw_okq (⟨"EvenWords", "remember", "()V"⟩, 12) := ⟨⟨by decide +kernel, by decide +kernel⟩, List.mem_of_getElem? (i := 10) (by decide +kernel), List.mem_of_getElem? (i := 203) (by decide +kernel), List.mem_of_getElem? (i := 204) (by decide +kernel)⟩
theorem lw_p2 : lw_okq (⟨"EvenWords", "forgetOldest", "()V"⟩, 12) := ⟨⟨by decide +kernel, by decide +kernel⟩, List.mem_of_getElem? (i := 10) (by decide +kernel), List.mem_of_getElem? (i := 207) (by decide +kernel), List.mem_of_getElem? (i := 208) (by decide +kernel)⟩
theorem lw_p3 : lw_okq (⟨"EvenWords$Wire", "noteMark", "(I)V"⟩, 7) := ⟨⟨by decide +kernel, by decide +kernel⟩, List.mem_of_getElem? (i := 18) (by decide +kernel), List.mem_of_getElem? (i := 232) (by decide +kernel), List.mem_of_getElem? (i := 233) (by decide +kernel)⟩
theorem lw_p4 : lw_okq (⟨"EvenWords$Walk", "formBreach", "(I)I"⟩, 5) := ⟨⟨by decide +kernel, by decide +kernel⟩, List.mem_of_getElem? (i := 60) (by decide +kernel), List.mem_of_getElem? (i := 317) (by decide +kernel), List.mem_of_getElem? (i := 318) (by decide +kernel)⟩
theorem lw_p5 : lw_okq (⟨"EvenWords$Reading", "isRightTurned", "(II)Z"⟩, 10) := ⟨⟨by decide +kernel, by decide +kernel⟩, List.mem_of_getElem? (i := 54) (by decide +kernel), List.mem_of_getElem? (i := 343) (by decide +kernel), List.mem_of_getElem? (i := 344) (by decide +kernel)⟩
theorem lw_p6 : lw_okq (⟨"EvenWords", "longestRun", "()I"⟩, 12) := ⟨⟨by decide +kernel, by decide +kernel⟩, List.mem_of_getElem? (i := 10) (by decide +kernel), List.mem_of_getElem? (i := 384) (by decide +kernel), List.mem_of_getElem? (i := 385) (by decide +kernel)⟩
theorem lw_p7 : lw_okq (⟨"EvenWords$Orders", "walkAhead", "(LEvenWords$Wire;I)V"⟩, 6) := ⟨⟨by decide +kernel, by decide +kernel⟩, List.mem_of_getElem? (i := 123) (by decide +kernel), List.mem_of_getElem? (i := 446) (by decide +kernel), List.mem_of_getElem? (i := 447) (by decide +kernel)⟩
theorem lw_p8 : lw_okq (⟨"EvenWords$Orders", "settle", "(I)V"⟩, 6) := ⟨⟨by decide +kernel, by decide +kernel⟩, List.mem_of_getElem? (i := 123) (by decide +kernel), List.mem_of_getElem? (i := 455) (by decide +kernel), List.mem_of_getElem? (i := 456) (by decide +kernel)⟩
theorem lw_p9 : lw_okq (⟨"EvenWords", "faultPlace", "()I"⟩, 12) := ⟨⟨by decide +kernel, by decide +kernel⟩, List.mem_of_getElem? (i := 10) (by decide +kernel), List.mem_of_getElem? (i := 495) (by decide +kernel), List.mem_of_getElem? (i := 496) (by decide +kernel)⟩
theorem lw_p10 : lw_okq (⟨"EvenWords", "isTokenStart", "(I)Z"⟩, 12) := ⟨⟨by decide +kernel, by decide +kernel⟩, List.mem_of_getElem? (i := 10) (by decide +kernel), List.mem_of_getElem? (i := 499) (by decide +kernel), List.mem_of_getElem? (i := 500) (by decide +kernel)⟩
theorem lw_p11 : lw_okq (⟨"EvenWords", "letterAt", "(I)I"⟩, 12) := ⟨⟨by decide +kernel, by decide +kernel⟩, List.mem_of_getElem? (i := 10) (by decide +kernel), List.mem_of_getElem? (i := 503) (by decide +kernel), List.mem_of_getElem? (i := 504) (by decide +kernel)⟩
theorem lw_p12 : lw_okq (⟨"EvenWords", "figureAt", "(I)I"⟩, 12) := ⟨⟨by decide +kernel, by decide +kernel⟩, List.mem_of_getElem? (i := 10) (by decide +kernel), List.mem_of_getElem? (i := 507) (by decide +kernel), List.mem_of_getElem? (i := 508) (by decide +kernel)⟩
theorem lw_p13 : lw_okq (⟨"EvenWords", "afterToken", "(II)I"⟩, 12) := ⟨⟨by decide +kernel, by decide +kernel⟩, List.mem_of_getElem? (i := 10) (by decide +kernel), List.mem_of_getElem? (i := 511) (by decide +kernel), List.mem_of_getElem? (i := 512) (by decide +kernel)⟩
theorem lw_p14 : lw_okq (⟨"EvenWords", "numberAt", "(I)I"⟩, 12) := ⟨⟨by decide +kernel, by decide +kernel⟩, List.mem_of_getElem? (i := 10) (by decide +kernel), List.mem_of_getElem? (i := 515) (by decide +kernel), List.mem_of_getElem? (i := 516) (by decide +kernel)⟩
theorem lw_p15 : lw_okq (⟨"EvenWords", "afterNumber", "(III)I"⟩, 12) := ⟨⟨by decide +kernel, by decide +kernel⟩, List.mem_of_getElem? (i := 10) (by decide +kernel), List.mem_of_getElem? (i := 519) (by decide +kernel), List.mem_of_getElem? (i := 520) (by decide +kernel)⟩
def lw_privs_1 : List (MethodName × Nat) := [(⟨"EvenWords", "sendOne", "(I)I"⟩, 12), (⟨"EvenWords", "remember", "()V"⟩, 12), (⟨"EvenWords", "forgetOldest", "()V"⟩, 12), (⟨"EvenWords$Wire", "noteMark", "(I)V"⟩, 7), (⟨"EvenWords$Walk", "formBreach", "(I)I"⟩, 5), (⟨"EvenWords$Reading", "isRightTurned", "(II)Z"⟩, 10), (⟨"EvenWords", "longestRun", "()I"⟩, 12), (⟨"EvenWords$Orders", "walkAhead", "(LEvenWords$Wire;I)V"⟩, 6), (⟨"EvenWords$Orders", "settle", "(I)V"⟩, 6), (⟨"EvenWords", "faultPlace", "()I"⟩, 12), (⟨"EvenWords", "isTokenStart", "(I)Z"⟩, 12), (⟨"EvenWords", "letterAt", "(I)I"⟩, 12), (⟨"EvenWords", "figureAt", "(I)I"⟩, 12), (⟨"EvenWords", "afterToken", "(II)I"⟩, 12), (⟨"EvenWords", "numberAt", "(I)I"⟩, 12), (⟨"EvenWords", "afterNumber", "(III)I"⟩, 12)]
theorem lw_r1 : ∀ q ∈ lw_privs_1, lw_okq q := List.forall_mem_cons.mpr ⟨lw_p0, List.forall_mem_cons.mpr ⟨lw_p1, List.forall_mem_cons.mpr ⟨lw_p2, List.forall_mem_cons.mpr ⟨lw_p3, List.forall_mem_cons.mpr ⟨lw_p4, List.forall_mem_cons.mpr ⟨lw_p5, List.forall_mem_cons.mpr ⟨lw_p6, List.forall_mem_cons.mpr ⟨lw_p7, List.forall_mem_cons.mpr ⟨lw_p8, List.forall_mem_cons.mpr ⟨lw_p9, List.forall_mem_cons.mpr ⟨lw_p10, List.forall_mem_cons.mpr ⟨lw_p11, List.forall_mem_cons.mpr ⟨lw_p12, List.forall_mem_cons.mpr ⟨lw_p13, List.forall_mem_cons.mpr ⟨lw_p14, List.forall_mem_cons.mpr ⟨lw_p15, fun _ h => absurd h List.not_mem_nil⟩⟩⟩⟩⟩⟩⟩⟩⟩⟩⟩⟩⟩⟩⟩⟩
def lw_privs : List (MethodName × Nat) := lw_privs_1
def lw_tbl : List Cond := k2_sels lw_privs ++ tables_1
theorem lw_privs_ok : ∀ q ∈ lw_privs, lw_okq q := lw_r1
def RX1 : String := "EvenWords$Orders"
def RX2 : String := "EvenWords$Reading"
def RX3 : String := "EvenWords$Walk"
def RX4 : String := "EvenWords$Wire"
def RX5 : String := "EvenWords"
def RX0 : String := "EvenWords$Forms"
def TX1 : u_T := fun k => match k with
  | 0 => ("EvenWords$Orders", "walks", "[LEvenWords$Walk;", true)
  | 1 => ("EvenWords$Orders", "kinds", "[I", true)
  | 2 => ("EvenWords$Orders", "order", "[I", true)
  | 3 => ("EvenWords$Orders", "best", "[I", true)
  | 4 => ("EvenWords$Orders", "many", "I", false)
  | _ => ("EvenWords$Orders", "least", "I", false)
def tyX1 : Nat → FieldType := fun k => match k with
  | 0 => .array (.object "EvenWords$Walk")
  | 1 => .array .int
  | 2 => .array .int
  | 3 => .array .int
  | 4 => .int
  | _ => .int
theorem nmX1 : ∀ a, a < 6 → ∀ b, b < 6 → a ≠ b → (TX1 a).2.1 ≠ (TX1 b).2.1 := by decide +kernel
theorem tyX1_ok : ∀ k, k < 6 → parseFieldDescriptor (TX1 k).2.2.1 = some (tyX1 k) := by decide +kernel
def TX2 : u_T := fun k => match k with
  | 0 => ("EvenWords$Reading", "pieces", "[I", true)
  | 1 => ("EvenWords$Reading", "walk", "LEvenWords$Walk;", true)
  | 2 => ("EvenWords$Reading", "trial", "LEvenWords$Walk;", true)
  | 3 => ("EvenWords$Reading", "from", "I", false)
  | 4 => ("EvenWords$Reading", "begin", "I", false)
  | 5 => ("EvenWords$Reading", "many", "I", false)
  | 6 => ("EvenWords$Reading", "first", "I", false)
  | 7 => ("EvenWords$Reading", "broken", "I", false)
  | 8 => ("EvenWords$Reading", "blamed", "I", false)
  | _ => ("EvenWords$Reading", "lowest", "I", false)
def tyX2 : Nat → FieldType := fun k => match k with
  | 0 => .array .int
  | 1 => .object "EvenWords$Walk"
  | 2 => .object "EvenWords$Walk"
  | 3 => .int
  | 4 => .int
  | 5 => .int
  | 6 => .int
  | 7 => .int
  | 8 => .int
  | _ => .int
theorem nmX2 : ∀ a, a < 10 → ∀ b, b < 10 → a ≠ b → (TX2 a).2.1 ≠ (TX2 b).2.1 := by decide +kernel
theorem tyX2_ok : ∀ k, k < 10 → parseFieldDescriptor (TX2 k).2.2.1 = some (tyX2 k) := by decide +kernel
def TX3 : u_T := fun k => match k with
  | 0 => ("EvenWords$Walk", "sum", "I", false)
  | 1 => ("EvenWords$Walk", "height", "I", false)
  | 2 => ("EvenWords$Walk", "lastBit", "I", false)
  | 3 => ("EvenWords$Walk", "run", "I", false)
  | _ => ("EvenWords$Walk", "longest", "I", false)
def tyX3 : Nat → FieldType := fun k => match k with
  | 0 => .int
  | 1 => .int
  | 2 => .int
  | 3 => .int
  | _ => .int
theorem nmX3 : ∀ a, a < 5 → ∀ b, b < 5 → a ≠ b → (TX3 a).2.1 ≠ (TX3 b).2.1 := by decide +kernel
theorem tyX3_ok : ∀ k, k < 5 → parseFieldDescriptor (TX3 k).2.2.1 = some (tyX3 k) := by decide +kernel
def TX4 : u_T := fun k => match k with
  | 0 => ("EvenWords$Wire", "kinds", "[I", true)
  | 1 => ("EvenWords$Wire", "sent", "[I", true)
  | 2 => ("EvenWords$Wire", "now", "[I", true)
  | 3 => ("EvenWords$Wire", "words", "I", false)
  | 4 => ("EvenWords$Wire", "sum", "I", false)
  | 5 => ("EvenWords$Wire", "olderMark", "I", false)
  | _ => ("EvenWords$Wire", "latestMark", "I", false)
def tyX4 : Nat → FieldType := fun k => match k with
  | 0 => .array .int
  | 1 => .array .int
  | 2 => .array .int
  | 3 => .int
  | 4 => .int
  | 5 => .int
  | _ => .int
theorem nmX4 : ∀ a, a < 7 → ∀ b, b < 7 → a ≠ b → (TX4 a).2.1 ≠ (TX4 b).2.1 := by decide +kernel
theorem tyX4_ok : ∀ k, k < 7 → parseFieldDescriptor (TX4 k).2.2.1 = some (tyX4 k) := by decide +kernel
def TX5 : u_T := fun k => match k with
  | 0 => ("EvenWords", "wire", "LEvenWords$Wire;", true)
  | 1 => ("EvenWords", "earlier", "[LEvenWords$Wire;", true)
  | 2 => ("EvenWords", "images", "[LEvenWords$Wire;", true)
  | 3 => ("EvenWords", "kept", "[Z", true)
  | 4 => ("EvenWords", "text", "[I", true)
  | 5 => ("EvenWords", "told", "[I", true)
  | 6 => ("EvenWords", "reading", "LEvenWords$Reading;", true)
  | 7 => ("EvenWords", "orders", "LEvenWords$Orders;", true)
  | 8 => ("EvenWords", "walk", "LEvenWords$Walk;", true)
  | 9 => ("EvenWords", "letters", "I", false)
  | 10 => ("EvenWords", "items", "I", false)
  | _ => ("EvenWords", "undoable", "I", false)
def tyX5 : Nat → FieldType := fun k => match k with
  | 0 => .object "EvenWords$Wire"
  | 1 => .array (.object "EvenWords$Wire")
  | 2 => .array (.object "EvenWords$Wire")
  | 3 => .array .boolean
  | 4 => .array .int
  | 5 => .array .int
  | 6 => .object "EvenWords$Reading"
  | 7 => .object "EvenWords$Orders"
  | 8 => .object "EvenWords$Walk"
  | 9 => .int
  | 10 => .int
  | _ => .int
theorem nmX5 : ∀ a, a < 12 → ∀ b, b < 12 → a ≠ b → (TX5 a).2.1 ≠ (TX5 b).2.1 := by decide +kernel
theorem tyX5_ok : ∀ k, k < 12 → parseFieldDescriptor (TX5 k).2.2.1 = some (tyX5 k) := by decide +kernel
abbrev vwCl : List vw_C := [(RX1, TX1, 6), (RX2, TX2, 10), (RX3, TX3, 5), (RX4, TX4, 7), (RX5, TX5, 12)]
def mvTy : List (Nat → FieldType) := [tyX1, tyX2, tyX3, tyX4, tyX5]
def mvOwn : List String := ["EvenWords$Orders", "EvenWords$Reading", "EvenWords$Walk", "EvenWords$Wire", "EvenWords", "EvenWordsModel", "EvenWords$Forms", "java/lang/Integer", "java/lang/Math", "EvenWordsLaw"]
def mvY : List MethodName := [⟨"EvenWords$Forms", "formDue", "(II)I"⟩, ⟨"EvenWords$Forms", "meaning", "(I)I"⟩, ⟨"EvenWords$Forms", "isRight", "(II)Z"⟩, ⟨"EvenWords$Forms", "sumBehind", "(II)I"⟩, ⟨"EvenWords$Orders", "<init>", "()V"⟩, ⟨"EvenWords$Orders", "search", "(LEvenWords$Wire;I)V"⟩, ⟨"EvenWords$Orders", "walkAhead", "(LEvenWords$Wire;I)V"⟩, ⟨"EvenWords$Orders", "bestAt", "(I)I"⟩, ⟨"EvenWords$Orders", "arrange", "(LEvenWords$Orders;II)V"⟩, ⟨"EvenWords$Orders", "settle", "(I)V"⟩, ⟨"EvenWords$Reading", "<init>", "()V"⟩, ⟨"EvenWords$Reading", "load", "(LEvenWords$Wire;II)V"⟩, ⟨"EvenWords$Reading", "pieceAt", "(I)I"⟩, ⟨"EvenWords$Reading", "sumAhead", "(I)I"⟩, ⟨"EvenWords$Reading", "sumBehind", "(I)I"⟩, ⟨"EvenWords$Reading", "breachesAt", "(I)I"⟩, ⟨"EvenWords$Reading", "check", "()V"⟩, ⟨"EvenWords$Reading", "blame", "()V"⟩, ⟨"EvenWords$Reading", "isRightTurned", "(II)Z"⟩, ⟨"EvenWords$Reading", "late", "()I"⟩, ⟨"EvenWords$Walk", "<init>", "()V"⟩, ⟨"EvenWords$Walk", "start", "(I)V"⟩, ⟨"EvenWords$Walk", "become", "(LEvenWords$Walk;)V"⟩, ⟨"EvenWords$Walk", "step", "(I)V"⟩, ⟨"EvenWords$Walk", "take", "(I)I"⟩, ⟨"EvenWords$Walk", "formBreach", "(I)I"⟩, ⟨"EvenWords$Wire", "<init>", "()V"⟩, ⟨"EvenWords$Wire", "empty", "()V"⟩, ⟨"EvenWords$Wire", "carry", "(LEvenWords$Wire;LEvenWords$Wire;)V"⟩, ⟨"EvenWords$Wire", "send", "(I)I"⟩, ⟨"EvenWords$Wire", "noteMark", "(I)V"⟩, ⟨"EvenWords$Wire", "markSentLately", "(I)I"⟩, ⟨"EvenWords$Wire", "bits", "()I"⟩, ⟨"EvenWords$Wire", "hasBit", "(I)Z"⟩, ⟨"EvenWords$Wire", "bitAt", "(I)I"⟩, ⟨"EvenWords$Wire", "turn", "(I)V"⟩, ⟨"EvenWords$Wire", "placeOf", "(I)I"⟩, ⟨"EvenWords$Wire", "ones", "()I"⟩, ⟨"EvenWords$Wire", "turned", "()I"⟩, ⟨"EvenWords$Wire", "marksSent", "()I"⟩, ⟨"EvenWords", "<init>", "()V"⟩, ⟨"EvenWords", "type", "(I)I"⟩, ⟨"EvenWords", "clear", "()I"⟩, ⟨"EvenWords", "tells", "()I"⟩, ⟨"EvenWords", "sends", "(I)I"⟩, ⟨"EvenWords", "marks", "(I)I"⟩, ⟨"EvenWords", "flips", "(I)I"⟩, ⟨"EvenWords", "clears", "()I"⟩, ⟨"EvenWords", "undo", "()I"⟩, ⟨"EvenWords", "bit", "(I)I"⟩, ⟨"EvenWords", "word", "(I)I"⟩, ⟨"EvenWords", "recent", "(I)I"⟩, ⟨"EvenWords", "piece", "(IIII)I"⟩, ⟨"EvenWords", "read", "(III)I"⟩, ⟨"EvenWords", "cuts", "(I)I"⟩, ⟨"EvenWords", "level", "(II)I"⟩, ⟨"EvenWords", "evenest", "(II)I"⟩, ⟨"EvenWords", "weight", "(I)I"⟩, ⟨"EvenWords", "keep", "(I)I"⟩, ⟨"EvenWords", "back", "(I)I"⟩, ⟨"EvenWords", "count", "(I)I"⟩, ⟨"EvenWords", "sendOne", "(I)I"⟩, ⟨"EvenWords", "remember", "()V"⟩, ⟨"EvenWords", "forgetOldest", "()V"⟩, ⟨"EvenWords", "longestRun", "()I"⟩, ⟨"EvenWords", "faultPlace", "()I"⟩, ⟨"EvenWords", "isTokenStart", "(I)Z"⟩, ⟨"EvenWords", "afterToken", "(II)I"⟩, ⟨"EvenWords", "afterNumber", "(III)I"⟩, ⟨"EvenWords", "numberAt", "(I)I"⟩, ⟨"EvenWords", "figureAt", "(I)I"⟩, ⟨"EvenWords", "letterAt", "(I)I"⟩, ⟨"EvenWords", "canRead", "(II)Z"⟩, ⟨"EvenWords", "sumOf", "(I)I"⟩, ⟨"EvenWords", "signOf", "(I)I"⟩, ⟨"java/lang/Integer", "bitCount", "(I)I"⟩, ⟨"EvenWordsLaw", "cell", "([II)I"⟩, ⟨"EvenWordsLaw", "low", "(II)I"⟩, ⟨"EvenWordsLaw", "tale", "(LEvenWords;)J"⟩, ⟨"EvenWordsLaw", "plain", "(LEvenWords;)Z"⟩, ⟨"EvenWordsLaw", "turned", "(LEvenWords;IJ)Z"⟩, ⟨"EvenWordsLaw", "levels", "(LEvenWords;)Z"⟩, ⟨"EvenWordsLaw", "act", "(LEvenWords;I)I"⟩, ⟨"java/lang/Math", "max", "(II)I"⟩, ⟨"EvenWordsLaw", "law", "([I)Z"⟩]
def mvB : List ByteArray := [prog_2_method_3_code, prog_2_method_4_code, prog_2_method_5_code, prog_2_method_6_code, prog_3_method_1_code, prog_3_method_2_code, prog_3_method_3_code, prog_3_method_4_code, prog_3_method_5_code, prog_3_method_6_code, prog_4_method_1_code, prog_4_method_2_code, prog_4_method_3_code, prog_4_method_4_code, prog_4_method_5_code, prog_4_method_6_code, prog_4_method_7_code, prog_4_method_8_code, prog_4_method_9_code, prog_4_method_10_code, prog_5_method_1_code, prog_5_method_2_code, prog_5_method_3_code, prog_5_method_4_code, prog_5_method_5_code, prog_5_method_6_code, prog_6_method_1_code, prog_6_method_2_code, prog_6_method_3_code, prog_6_method_4_code, prog_6_method_5_code, prog_6_method_6_code, prog_6_method_7_code, prog_6_method_8_code, prog_6_method_9_code, prog_6_method_10_code, prog_6_method_11_code, prog_6_method_12_code, prog_6_method_13_code, prog_6_method_14_code, prog_1_method_1_code, prog_1_method_2_code, prog_1_method_3_code, prog_1_method_4_code, prog_1_method_5_code, prog_1_method_6_code, prog_1_method_7_code, prog_1_method_8_code, prog_1_method_9_code, prog_1_method_11_code, prog_1_method_12_code, prog_1_method_13_code, prog_1_method_14_code, prog_1_method_15_code, prog_1_method_16_code, prog_1_method_17_code, prog_1_method_18_code, prog_1_method_19_code, prog_1_method_20_code, prog_1_method_21_code, prog_1_method_22_code, prog_1_method_23_code, prog_1_method_24_code, prog_1_method_25_code, prog_1_method_26_code, prog_1_method_27_code, prog_1_method_28_code, prog_1_method_29_code, prog_1_method_30_code, prog_1_method_31_code, prog_1_method_32_code, prog_1_method_33_code, prog_1_method_34_code, prog_1_method_35_code, prog_1_method_36_code, prog_9_method_49_code, method_2_code, method_3_code, method_4_code, method_5_code, method_6_code, method_7_code, method_8_code, prog_10_method_65_code, code]
def mvMl : List Nat := [3, 1, 3, 3, 2, 5, 5, 2, 6, 3, 1, 7, 2, 4, 2, 4, 2, 4, 4, 1, 1, 2, 2, 2, 4, 2, 1, 1, 3, 3, 2, 3, 1, 2, 2, 2, 1, 3, 3, 3, 2, 2, 2, 3, 2, 2, 2, 2, 1, 2, 2, 2, 6, 4, 4, 8, 3, 6, 2, 2, 2, 2, 1, 3, 2, 3, 2, 4, 4, 5, 3, 2, 2, 1, 1, 1, 2, 2, 4, 5, 7, 5, 2, 2, 10]
def mvNa : List Nat := [2, 1, 2, 2, 1, 3, 3, 2, 3, 2, 1, 4, 2, 2, 2, 2, 1, 1, 3, 1, 1, 2, 2, 2, 2, 2, 1, 1, 2, 2, 2, 2, 1, 2, 2, 2, 1, 1, 1, 1, 1, 2, 1, 1, 2, 2, 2, 1, 1, 2, 2, 2, 5, 4, 2, 3, 3, 2, 2, 2, 2, 2, 1, 1, 1, 1, 2, 3, 4, 2, 2, 2, 2, 1, 1, 1, 2, 2, 1, 1, 3, 1, 2, 2, 1]
def mvO : List Nat := [6, 6, 6, 6, 0, 0, 0, 0, 0, 0, 1, 1, 1, 1, 1, 1, 1, 1, 1, 1, 2, 2, 2, 2, 2, 2, 3, 3, 3, 3, 3, 3, 3, 3, 3, 3, 3, 3, 3, 3, 4, 4, 4, 4, 4, 4, 4, 4, 4, 4, 4, 4, 4, 4, 4, 4, 4, 4, 4, 4, 4, 4, 4, 4, 4, 4, 4, 4, 4, 4, 4, 4, 4, 4, 4, 7, 9, 9, 9, 9, 9, 9, 9, 8, 9]
def mvSt : List Bool := [true, true, true, true, false, false, false, false, true, false, false, false, false, false, false, false, false, false, false, false, false, false, false, false, false, false, false, false, true, false, false, false, false, false, false, false, true, false, false, false, false, false, false, false, false, false, false, false, false, false, false, false, false, false, false, false, false, false, false, false, false, false, false, false, false, false, false, false, false, false, false, false, true, true, true, true, true, true, true, true, true, true, true, true, true]
def mvRt : List (Option FieldType) := [(some .int), (some .int), (some .boolean), (some .int), none, none, none, (some .int), none, none, none, none, (some .int), (some .int), (some .int), (some .int), none, none, (some .boolean), (some .int), none, none, none, none, (some .int), (some .int), none, none, none, (some .int), none, (some .int), (some .int), (some .boolean), (some .int), none, (some .int), (some .int), (some .int), (some .int), none, (some .int), (some .int), (some .int), (some .int), (some .int), (some .int), (some .int), (some .int), (some .int), (some .int), (some .int), (some .int), (some .int), (some .int), (some .int), (some .int), (some .int), (some .int), (some .int), (some .int), (some .int), none, none, (some .int), (some .int), (some .boolean), (some .int), (some .int), (some .int), (some .int), (some .int), (some .boolean), (some .int), (some .int), (some .int), (some .int), (some .int), (some .long), (some .boolean), (some .boolean), (some .boolean), (some .int), (some .int), (some .boolean)]
/-- fields by link: own class, place in its pool, class, number, place of the word in tables_1 -/
def mvF : List (Nat × Nat × Nat × Nat × Nat) := [(3, 9, 3, 0, 23), (0, 44, 3, 0, 24), (4, 112, 3, 0, 25), (3, 15, 3, 1, 26), (0, 53, 3, 1, 27), (3, 18, 3, 2, 28), (3, 21, 3, 3, 29), (0, 35, 3, 3, 30), (4, 63, 3, 3, 31), (3, 25, 3, 4, 32), (4, 199, 3, 4, 33), (3, 28, 3, 5, 34), (3, 31, 3, 6, 35), (2, 9, 2, 0, 65), (0, 70, 2, 0, 66), (2, 15, 2, 1, 67), (4, 182, 2, 1, 68), (2, 18, 2, 2, 69), (2, 21, 2, 3, 70), (2, 24, 2, 4, 71), (0, 60, 2, 4, 72), (4, 217, 2, 4, 73), (1, 9, 1, 0, 86), (1, 18, 1, 1, 87), (1, 22, 1, 2, 88), (1, 25, 1, 3, 89), (1, 29, 1, 4, 90), (1, 32, 1, 5, 91), (4, 126, 1, 5, 92), (1, 35, 1, 6, 93), (4, 154, 1, 6, 94), (1, 38, 1, 7, 95), (4, 157, 1, 7, 96), (1, 41, 1, 8, 97), (4, 163, 1, 8, 98), (1, 44, 1, 9, 99), (4, 166, 1, 9, 100), (0, 11, 0, 0, 131), (0, 17, 0, 1, 132), (0, 21, 0, 2, 133), (0, 24, 0, 3, 134), (0, 27, 0, 4, 135), (0, 31, 0, 5, 136), (4, 189, 0, 5, 137), (4, 12, 4, 0, 153), (4, 16, 4, 1, 154), (4, 20, 4, 2, 155), (4, 23, 4, 3, 156), (4, 27, 4, 4, 157), (4, 31, 4, 5, 158), (4, 37, 4, 6, 159), (4, 44, 4, 7, 160), (4, 51, 4, 8, 161), (4, 55, 4, 9, 162), (4, 66, 4, 10, 163), (4, 93, 4, 11, 164)]
/-- methods by link: own class, place in its pool, method, of a nest mate, place of the word -/
def mvC : List (Nat × Nat × Nat × Bool × Nat) := [(9, 76, 40, false, 11), (4, 11, 26, true, 19), (4, 36, 10, true, 55), (1, 17, 20, true, 61), (4, 43, 4, false, 124), (0, 34, 20, true, 130), (4, 50, 20, true, 152), (9, 94, 42, false, 190), (9, 60, 44, false, 194), (4, 76, 61, false, 198), (4, 69, 62, false, 202), (4, 214, 63, false, 206), (4, 96, 28, false, 210), (4, 72, 29, false, 213), (3, 34, 0, false, 217), (3, 40, 3, false, 222), (6, 26, 75, false, 225), (3, 43, 30, false, 231), (9, 63, 45, false, 235), (9, 40, 46, false, 239), (4, 79, 33, false, 243), (3, 47, 32, false, 247), (4, 83, 35, false, 251), (3, 51, 33, false, 255), (3, 55, 36, false, 256), (4, 87, 34, false, 259), (9, 66, 47, false, 263), (4, 90, 27, false, 267), (9, 77, 48, false, 271), (9, 22, 51, false, 275), (4, 115, 31, false, 279), (9, 29, 53, false, 283), (4, 118, 72, false, 287), (4, 105, 73, false, 291), (4, 122, 11, false, 294), (1, 47, 32, false, 298), (1, 53, 34, false, 299), (4, 151, 16, false, 300), (1, 69, 21, false, 304), (1, 57, 12, false, 308), (1, 73, 24, false, 312), (2, 33, 25, false, 316), (2, 46, 1, false, 320), (2, 49, 2, false, 325), (6, 18, 1, false, 328), (6, 22, 0, false, 329), (2, 37, 23, false, 330), (2, 27, 83, false, 334), (2, 41, 3, false, 337), (4, 160, 17, false, 338), (1, 76, 18, false, 342), (1, 80, 22, false, 346), (4, 169, 19, false, 350), (9, 33, 54, false, 355), (9, 83, 58, false, 359), (9, 80, 59, false, 363), (9, 8, 60, false, 367), (4, 147, 74, false, 371), (4, 202, 37, false, 374), (3, 59, 75, false, 378), (4, 205, 38, false, 379), (4, 208, 64, false, 383), (4, 173, 21, false, 387), (4, 176, 32, false, 388), (4, 179, 23, false, 389), (4, 211, 39, false, 390), (9, 86, 76, false, 394), (9, 57, 77, false, 397), (9, 44, 78, false, 401), (9, 16, 50, false, 405), (9, 19, 49, false, 409), (9, 101, 79, false, 413), (9, 25, 52, false, 416), (4, 129, 12, false, 420), (4, 132, 1, false, 421), (4, 135, 13, false, 422), (1, 60, 3, false, 426), (4, 138, 2, false, 427), (4, 141, 15, false, 428), (4, 144, 14, false, 432), (1, 66, 13, false, 436), (9, 36, 56, false, 437), (4, 185, 5, false, 441), (0, 40, 6, false, 445), (0, 49, 21, false, 449), (0, 56, 24, false, 450), (0, 45, 8, false, 451), (0, 63, 9, false, 454), (0, 66, 22, false, 458), (0, 73, 0, false, 459), (4, 192, 7, false, 460), (9, 104, 80, false, 464), (9, 97, 81, false, 468), (9, 50, 55, false, 471), (9, 53, 57, false, 476), (9, 90, 82, false, 483), (9, 70, 41, false, 486), (9, 73, 43, false, 490), (4, 59, 65, false, 494), (4, 220, 66, false, 498), (4, 226, 71, false, 502), (4, 229, 70, false, 506), (4, 223, 67, false, 510), (4, 232, 69, false, 514), (4, 235, 68, false, 518)]
/-- links of Object's constructor -/
def mvOb : List (Nat × Nat × Nat) := [(4, 3, 14), (3, 3, 22), (1, 3, 58), (2, 3, 64), (0, 3, 127)]
/-- classes by link -/
def mvN : List (Nat × Nat × Nat × Nat) := [(9, 9, 4, 9), (4, 9, 3, 17), (4, 34, 1, 53), (1, 15, 2, 59), (4, 41, 0, 122), (0, 9, 2, 128), (4, 48, 2, 151)]
/-- constants -/
def mvK : List (Nat × Nat × Int32 × Nat) := [(7, 265, (1431655765), 228), (7, 266, (858993459), 229), (7, 267, (252645135), 230), (4, 150, (-1000000), 290), (1, 84, (-2000000), 354), (9, 7, (2147483647), 400), (9, 43, (-2000000), 467), (4, 172, (-2000000), 475), (9, 56, (-1000000), 482)]
def mvKl : List (Nat × Nat × Int64 × Nat) := [(9, 14, (31), 404), (4, 195, (-999999), 480), (4, 197, (999999), 481)]
/-- static arrays by link -/
def mvS : List (Nat × Nat × Nat × Nat) := [(6, 9, 0, 220), (6, 15, 1, 323)]
/-- a field: 0 int, 1 boolean, 2 a reference; final -/
def mvFt : List (List (Nat × Bool)) := [[(2, true), (2, true), (2, true), (2, true), (0, false), (0, false)], [(2, true), (2, true), (2, true), (0, false), (0, false), (0, false), (0, false), (0, false), (0, false), (0, false)], [(0, false), (0, false), (0, false), (0, false), (0, false)], [(2, true), (2, true), (2, true), (0, false), (0, false), (0, false), (0, false)], [(2, true), (2, true), (2, true), (2, true), (2, true), (2, true), (2, true), (2, true), (2, true), (0, false), (0, false), (0, false)]]
