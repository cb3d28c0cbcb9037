section
-- ===== PART A: goes FIRST, ahead of the names: the tables' words, and 'selects' of the private methods out of them =====
/-- a private method of a class that the tables say can be made, by its rows of tables_1 -/
def lw_okq (q : MethodName × Nat) : Prop := (q.1.cls ≠ "java/lang/invoke/MethodHandle" ∧ q.1.cls ≠ "java/lang/invoke/VarHandle") ∧ Cond.instantiable q.1.cls q.2 ∈ tables_1 ∧ Cond.privateMethod q.1 ∈ tables_1 ∧ Cond.instanceMethod q.1 ∈ tables_1
theorem lw_p0 : lw_okq (⟨"EvenWords", "faultPlace", "()I"⟩, 12) := ⟨⟨by decide +kernel, by decide +kernel⟩, List.mem_of_getElem? (i := 11) (by decide +kernel), List.mem_of_getElem? (i := 204) (by decide +kernel), List.mem_of_getElem? (i := 205) (by decide +kernel)⟩
theorem lw_p1 : lw_okq (⟨"EvenWords", "tokenEnd", "(I)I"⟩, 12) := ⟨⟨by decide +kernel, by decide +kernel⟩, List.mem_of_getElem? (i := 11) (by decide +kernel), List.mem_of_getElem? (i := 208) (by decide +kernel), List.mem_of_getElem? (i := 209) (by decide +kernel)⟩
theorem lw_p2 : lw_okq (⟨"EvenWords", "isFigure", "(I)Z"⟩, 12) := ⟨⟨by decide +kernel, by decide +kernel⟩, List.mem_of_getElem? (i := 11) (by decide +kernel), List.mem_of_getElem? (i := 212) (by decide +kernel), List.mem_of_getElem? (i := 213) (by decide +kernel)⟩
theorem lw_p3 : lw_okq (⟨"EvenWords", "afterToken", "(III)I"⟩, 12) := ⟨⟨by decide +kernel, by decide +kernel⟩, List.mem_of_getElem? (i := 11) (by decide +kernel), List.mem_of_getElem? (i := 216) (by decide +kernel), List.mem_of_getElem? (i := 217) (by decide +kernel)⟩
theorem lw_p4 : lw_okq (⟨"EvenWords", "numberAt", "(II)I"⟩, 12) := ⟨⟨by decide +kernel, by decide +kernel⟩, List.mem_of_getElem? (i := 11) (by decide +kernel), List.mem_of_getElem? (i := 220) (by decide +kernel), List.mem_of_getElem? (i := 221) (by decide +kernel)⟩
theorem lw_p5 : lw_okq (⟨"EvenWords", "afterNumber", "(III)I"⟩, 12) := ⟨⟨by decide +kernel, by decide +kernel⟩, List.mem_of_getElem? (i := 11) (by decide +kernel), List.mem_of_getElem? (i := 224) (by decide +kernel), List.mem_of_getElem? (i := 225) (by decide +kernel)⟩
theorem lw_p6 : lw_okq (⟨"EvenWords", "remember", "()V"⟩, 12) := ⟨⟨by decide +kernel, by decide +kernel⟩, List.mem_of_getElem? (i := 11) (by decide +kernel), List.mem_of_getElem? (i := 228) (by decide +kernel), List.mem_of_getElem? (i := 229) (by decide +kernel)⟩
theorem lw_p7 : lw_okq (⟨"EvenWords", "forgetOldest", "()V"⟩, 12) := ⟨⟨by decide +kernel, by decide +kernel⟩, List.mem_of_getElem? (i := 11) (by decide +kernel), List.mem_of_getElem? (i := 232) (by decide +kernel), List.mem_of_getElem? (i := 233) (by decide +kernel)⟩
theorem lw_p8 : lw_okq (⟨"EvenWords$Wire", "noteMark", "(I)V"⟩, 7) := ⟨⟨by decide +kernel, by decide +kernel⟩, List.mem_of_getElem? (i := 19) (by decide +kernel), List.mem_of_getElem? (i := 263) (by decide +kernel), List.mem_of_getElem? (i := 264) (by decide +kernel)⟩
theorem lw_p9 : lw_okq (⟨"EvenWords", "sendOne", "(I)I"⟩, 12) := ⟨⟨by decide +kernel, by decide +kernel⟩, List.mem_of_getElem? (i := 11) (by decide +kernel), List.mem_of_getElem? (i := 271) (by decide +kernel), List.mem_of_getElem? (i := 272) (by decide +kernel)⟩
theorem lw_p10 : lw_okq (⟨"EvenWords$Walk", "formBreach", "(I)I"⟩, 5) := ⟨⟨by decide +kernel, by decide +kernel⟩, List.mem_of_getElem? (i := 61) (by decide +kernel), List.mem_of_getElem? (i := 388) (by decide +kernel), List.mem_of_getElem? (i := 389) (by decide +kernel)⟩
theorem lw_p11 : lw_okq (⟨"EvenWords$Reading", "isRightTurned", "(II)Z"⟩, 10) := ⟨⟨by decide +kernel, by decide +kernel⟩, List.mem_of_getElem? (i := 55) (by decide +kernel), List.mem_of_getElem? (i := 423) (by decide +kernel), List.mem_of_getElem? (i := 424) (by decide +kernel)⟩
theorem lw_p12 : lw_okq (⟨"EvenWords$Orders", "walkAhead", "(LEvenWords$Wire;I)V"⟩, 6) := ⟨⟨by decide +kernel, by decide +kernel⟩, List.mem_of_getElem? (i := 124) (by decide +kernel), List.mem_of_getElem? (i := 456) (by decide +kernel), List.mem_of_getElem? (i := 457) (by decide +kernel)⟩
theorem lw_p13 : lw_okq (⟨"EvenWords$Orders", "settle", "(I)V"⟩, 6) := ⟨⟨by decide +kernel, by decide +kernel⟩, List.mem_of_getElem? (i := 124) (by decide +kernel), List.mem_of_getElem? (i := 465) (by decide +kernel), List.mem_of_getElem? (i := 466) (by decide +kernel)⟩
theorem lw_p14 : lw_okq (⟨"EvenWords", "longestRun", "()I"⟩, 12) := ⟨⟨by decide +kernel, by decide +kernel⟩, List.mem_of_getElem? (i := 11) (by decide +kernel), List.mem_of_getElem? (i := 502) (by decide +kernel), List.mem_of_getElem? (i := 503) (by decide +kernel)⟩
theorem lw_p15 : lw_okq (⟨"EvenWordsModel", "bares", "()V"⟩, 32) := ⟨⟨by decide +kernel, by decide +kernel⟩, List.mem_of_getElem? (i := 510) (by decide +kernel), List.mem_of_getElem? (i := 516) (by decide +kernel), List.mem_of_getElem? (i := 517) (by decide +kernel)⟩
def lw_privs_1 : List (MethodName × Nat) := [(⟨"EvenWords", "faultPlace", "()I"⟩, 12), (⟨"EvenWords", "tokenEnd", "(I)I"⟩, 12), (⟨"EvenWords", "isFigure", "(I)Z"⟩, 12), (⟨"EvenWords", "afterToken", "(III)I"⟩, 12), (⟨"EvenWords", "numberAt", "(II)I"⟩, 12), (⟨"EvenWords", "afterNumber", "(III)I"⟩, 12), (⟨"EvenWords", "remember", "()V"⟩, 12), (⟨"EvenWords", "forgetOldest", "()V"⟩, 12), (⟨"EvenWords$Wire", "noteMark", "(I)V"⟩, 7), (⟨"EvenWords", "sendOne", "(I)I"⟩, 12), (⟨"EvenWords$Walk", "formBreach", "(I)I"⟩, 5), (⟨"EvenWords$Reading", "isRightTurned", "(II)Z"⟩, 10), (⟨"EvenWords$Orders", "walkAhead", "(LEvenWords$Wire;I)V"⟩, 6), (⟨"EvenWords$Orders", "settle", "(I)V"⟩, 6), (⟨"EvenWords", "longestRun", "()I"⟩, 12), (⟨"EvenWordsModel", "bares", "()V"⟩, 32)]
theorem lw_r1 : ∀ q ∈ lw_privs_1, lw_okq q := List.forall_mem_cons.mpr ⟨lw_p0, List.forall_mem_cons.mpr ⟨lw_p1, List.forall_mem_cons.mpr ⟨lw_p2, List.forall_mem_cons.mpr ⟨lw_p3, List.forall_mem_cons.mpr ⟨lw_p4, List.forall_mem_cons.mpr ⟨lw_p5, List.forall_mem_cons.mpr ⟨lw_p6, List.forall_mem_cons.mpr ⟨lw_p7, List.forall_mem_cons.mpr ⟨lw_p8, List.forall_mem_cons.mpr ⟨lw_p9, List.forall_mem_cons.mpr ⟨lw_p10, List.forall_mem_cons.mpr ⟨lw_p11, List.forall_mem_cons.mpr ⟨lw_p12, List.forall_mem_cons.mpr ⟨lw_p13, List.forall_mem_cons.mpr ⟨lw_p14, List.forall_mem_cons.mpr ⟨lw_p15, fun _ h => absurd h List.not_mem_nil⟩⟩⟩⟩⟩⟩⟩⟩⟩⟩⟩⟩⟩⟩⟩⟩
theorem lw_p16 : lw_okq (⟨"EvenWordsModel", "readsText", "()V"⟩, 32) := ⟨⟨by decide +kernel, by decide +kernel⟩, List.mem_of_getElem? (i := 510) (by decide +kernel), List.mem_of_getElem? (i := 632) (by decide +kernel), List.mem_of_getElem? (i := 633) (by decide +kernel)⟩
theorem lw_p17 : lw_okq (⟨"EvenWordsModel", "advances", "()V"⟩, 32) := ⟨⟨by decide +kernel, by decide +kernel⟩, List.mem_of_getElem? (i := 510) (by decide +kernel), List.mem_of_getElem? (i := 636) (by decide +kernel), List.mem_of_getElem? (i := 637) (by decide +kernel)⟩
theorem lw_p18 : lw_okq (⟨"EvenWordsModel", "letterAt", "(I)I"⟩, 32) := ⟨⟨by decide +kernel, by decide +kernel⟩, List.mem_of_getElem? (i := 510) (by decide +kernel), List.mem_of_getElem? (i := 640) (by decide +kernel), List.mem_of_getElem? (i := 641) (by decide +kernel)⟩
theorem lw_p19 : lw_okq (⟨"EvenWordsModel", "takes", "(Z)I"⟩, 32) := ⟨⟨by decide +kernel, by decide +kernel⟩, List.mem_of_getElem? (i := 510) (by decide +kernel), List.mem_of_getElem? (i := 644) (by decide +kernel), List.mem_of_getElem? (i := 645) (by decide +kernel)⟩
theorem lw_p20 : lw_okq (⟨"EvenWordsModel", "notes", "()V"⟩, 32) := ⟨⟨by decide +kernel, by decide +kernel⟩, List.mem_of_getElem? (i := 510) (by decide +kernel), List.mem_of_getElem? (i := 648) (by decide +kernel), List.mem_of_getElem? (i := 649) (by decide +kernel)⟩
theorem lw_p21 : lw_okq (⟨"EvenWordsModel", "sent", "(I)I"⟩, 32) := ⟨⟨by decide +kernel, by decide +kernel⟩, List.mem_of_getElem? (i := 510) (by decide +kernel), List.mem_of_getElem? (i := 652) (by decide +kernel), List.mem_of_getElem? (i := 653) (by decide +kernel)⟩
theorem lw_p22 : lw_okq (⟨"EvenWordsModel", "remembers", "(I)V"⟩, 32) := ⟨⟨by decide +kernel, by decide +kernel⟩, List.mem_of_getElem? (i := 510) (by decide +kernel), List.mem_of_getElem? (i := 668) (by decide +kernel), List.mem_of_getElem? (i := 669) (by decide +kernel)⟩
theorem lw_p23 : lw_okq (⟨"EvenWordsModel", "isBit", "(I)Z"⟩, 32) := ⟨⟨by decide +kernel, by decide +kernel⟩, List.mem_of_getElem? (i := 510) (by decide +kernel), List.mem_of_getElem? (i := 684) (by decide +kernel), List.mem_of_getElem? (i := 685) (by decide +kernel)⟩
theorem lw_p24 : lw_okq (⟨"EvenWordsModel", "reads", "(III)V"⟩, 32) := ⟨⟨by decide +kernel, by decide +kernel⟩, List.mem_of_getElem? (i := 510) (by decide +kernel), List.mem_of_getElem? (i := 722) (by decide +kernel), List.mem_of_getElem? (i := 723) (by decide +kernel)⟩
theorem lw_p25 : lw_okq (⟨"EvenWordsModel", "lays", "()V"⟩, 32) := ⟨⟨by decide +kernel, by decide +kernel⟩, List.mem_of_getElem? (i := 510) (by decide +kernel), List.mem_of_getElem? (i := 726) (by decide +kernel), List.mem_of_getElem? (i := 727) (by decide +kernel)⟩
theorem lw_p26 : lw_okq (⟨"EvenWordsModel", "bitAt", "(II)I"⟩, 32) := ⟨⟨by decide +kernel, by decide +kernel⟩, List.mem_of_getElem? (i := 510) (by decide +kernel), List.mem_of_getElem? (i := 730) (by decide +kernel), List.mem_of_getElem? (i := 731) (by decide +kernel)⟩
theorem lw_p27 : lw_okq (⟨"EvenWordsModel", "firstBreach", "()I"⟩, 32) := ⟨⟨by decide +kernel, by decide +kernel⟩, List.mem_of_getElem? (i := 510) (by decide +kernel), List.mem_of_getElem? (i := 739) (by decide +kernel), List.mem_of_getElem? (i := 740) (by decide +kernel)⟩
theorem lw_p28 : lw_okq (⟨"EvenWordsModel", "blames", "(II)V"⟩, 32) := ⟨⟨by decide +kernel, by decide +kernel⟩, List.mem_of_getElem? (i := 510) (by decide +kernel), List.mem_of_getElem? (i := 743) (by decide +kernel), List.mem_of_getElem? (i := 744) (by decide +kernel)⟩
theorem lw_p29 : lw_okq (⟨"EvenWordsModel", "laysLevels", "()V"⟩, 32) := ⟨⟨by decide +kernel, by decide +kernel⟩, List.mem_of_getElem? (i := 510) (by decide +kernel), List.mem_of_getElem? (i := 756) (by decide +kernel), List.mem_of_getElem? (i := 757) (by decide +kernel)⟩
theorem lw_p30 : lw_okq (⟨"EvenWordsModel", "evenestOf", "(I)I"⟩, 32) := ⟨⟨by decide +kernel, by decide +kernel⟩, List.mem_of_getElem? (i := 510) (by decide +kernel), List.mem_of_getElem? (i := 764) (by decide +kernel), List.mem_of_getElem? (i := 765) (by decide +kernel)⟩
theorem lw_p31 : lw_okq (⟨"EvenWordsModel", "laysAhead", "(I)V"⟩, 32) := ⟨⟨by decide +kernel, by decide +kernel⟩, List.mem_of_getElem? (i := 510) (by decide +kernel), List.mem_of_getElem? (i := 768) (by decide +kernel), List.mem_of_getElem? (i := 769) (by decide +kernel)⟩
def lw_privs_2 : List (MethodName × Nat) := [(⟨"EvenWordsModel", "readsText", "()V"⟩, 32), (⟨"EvenWordsModel", "advances", "()V"⟩, 32), (⟨"EvenWordsModel", "letterAt", "(I)I"⟩, 32), (⟨"EvenWordsModel", "takes", "(Z)I"⟩, 32), (⟨"EvenWordsModel", "notes", "()V"⟩, 32), (⟨"EvenWordsModel", "sent", "(I)I"⟩, 32), (⟨"EvenWordsModel", "remembers", "(I)V"⟩, 32), (⟨"EvenWordsModel", "isBit", "(I)Z"⟩, 32), (⟨"EvenWordsModel", "reads", "(III)V"⟩, 32), (⟨"EvenWordsModel", "lays", "()V"⟩, 32), (⟨"EvenWordsModel", "bitAt", "(II)I"⟩, 32), (⟨"EvenWordsModel", "firstBreach", "()I"⟩, 32), (⟨"EvenWordsModel", "blames", "(II)V"⟩, 32), (⟨"EvenWordsModel", "laysLevels", "()V"⟩, 32), (⟨"EvenWordsModel", "evenestOf", "(I)I"⟩, 32), (⟨"EvenWordsModel", "laysAhead", "(I)V"⟩, 32)]
theorem lw_r2 : ∀ q ∈ lw_privs_2, lw_okq q := List.forall_mem_cons.mpr ⟨lw_p16, List.forall_mem_cons.mpr ⟨lw_p17, List.forall_mem_cons.mpr ⟨lw_p18, List.forall_mem_cons.mpr ⟨lw_p19, List.forall_mem_cons.mpr ⟨lw_p20, List.forall_mem_cons.mpr ⟨lw_p21, List.forall_mem_cons.mpr ⟨lw_p22, List.forall_mem_cons.mpr ⟨lw_p23, List.forall_mem_cons.mpr ⟨lw_p24, List.forall_mem_cons.mpr ⟨lw_p25, List.forall_mem_cons.mpr ⟨lw_p26, List.forall_mem_cons.mpr ⟨lw_p27, List.forall_mem_cons.mpr ⟨lw_p28, List.forall_mem_cons.mpr ⟨lw_p29, List.forall_mem_cons.mpr ⟨lw_p30, List.forall_mem_cons.mpr ⟨lw_p31, fun _ h => absurd h List.not_mem_nil⟩⟩⟩⟩⟩⟩⟩⟩⟩⟩⟩⟩⟩⟩⟩⟩
theorem lw_p32 : lw_okq (⟨"EvenWordsModel", "lengthens", "(I)V"⟩, 32) := ⟨⟨by decide +kernel, by decide +kernel⟩, List.mem_of_getElem? (i := 510) (by decide +kernel), List.mem_of_getElem? (i := 772) (by decide +kernel), List.mem_of_getElem? (i := 773) (by decide +kernel)⟩
theorem lw_p33 : lw_okq (⟨"EvenWordsModel", "isOrder", "(II)Z"⟩, 32) := ⟨⟨by decide +kernel, by decide +kernel⟩, List.mem_of_getElem? (i := 510) (by decide +kernel), List.mem_of_getElem? (i := 776) (by decide +kernel), List.mem_of_getElem? (i := 777) (by decide +kernel)⟩
theorem lw_p34 : lw_okq (⟨"EvenWordsModel", "oneMany", "()I"⟩, 32) := ⟨⟨by decide +kernel, by decide +kernel⟩, List.mem_of_getElem? (i := 510) (by decide +kernel), List.mem_of_getElem? (i := 798) (by decide +kernel), List.mem_of_getElem? (i := 799) (by decide +kernel)⟩
theorem lw_p35 : lw_okq (⟨"EvenWordsModel", "turnedMany", "()I"⟩, 32) := ⟨⟨by decide +kernel, by decide +kernel⟩, List.mem_of_getElem? (i := 510) (by decide +kernel), List.mem_of_getElem? (i := 802) (by decide +kernel), List.mem_of_getElem? (i := 803) (by decide +kernel)⟩
theorem lw_p36 : lw_okq (⟨"EvenWordsModel", "longest", "()I"⟩, 32) := ⟨⟨by decide +kernel, by decide +kernel⟩, List.mem_of_getElem? (i := 510) (by decide +kernel), List.mem_of_getElem? (i := 806) (by decide +kernel), List.mem_of_getElem? (i := 807) (by decide +kernel)⟩
theorem lw_p37 : lw_okq (⟨"EvenWordsModel", "markMany", "()I"⟩, 32) := ⟨⟨by decide +kernel, by decide +kernel⟩, List.mem_of_getElem? (i := 510) (by decide +kernel), List.mem_of_getElem? (i := 810) (by decide +kernel), List.mem_of_getElem? (i := 811) (by decide +kernel)⟩
def lw_privs_3 : List (MethodName × Nat) := [(⟨"EvenWordsModel", "lengthens", "(I)V"⟩, 32), (⟨"EvenWordsModel", "isOrder", "(II)Z"⟩, 32), (⟨"EvenWordsModel", "oneMany", "()I"⟩, 32), (⟨"EvenWordsModel", "turnedMany", "()I"⟩, 32), (⟨"EvenWordsModel", "longest", "()I"⟩, 32), (⟨"EvenWordsModel", "markMany", "()I"⟩, 32)]
theorem lw_r3 : ∀ q ∈ lw_privs_3, lw_okq q := List.forall_mem_cons.mpr ⟨lw_p32, List.forall_mem_cons.mpr ⟨lw_p33, List.forall_mem_cons.mpr ⟨lw_p34, List.forall_mem_cons.mpr ⟨lw_p35, List.forall_mem_cons.mpr ⟨lw_p36, List.forall_mem_cons.mpr ⟨lw_p37, fun _ h => absurd h List.not_mem_nil⟩⟩⟩⟩⟩⟩
def lw_privs : List (MethodName × Nat) := lw_privs_1 ++ (lw_privs_2 ++ (lw_privs_3))
def lw_tbl : List Cond := k2_sels lw_privs ++ tables_1
theorem lw_privs_ok : ∀ q ∈ lw_privs, lw_okq q := by
  show ∀ q ∈ lw_privs_1 ++ (lw_privs_2 ++ (lw_privs_3)), lw_okq q
  exact List.forall_mem_append.mpr ⟨lw_r1, List.forall_mem_append.mpr ⟨lw_r2, lw_r3⟩⟩
def RX1 : String := "EvenWords$Orders"
def RX2 : String := "EvenWords$Reading"
def RX3 : String := "EvenWords$Walk"
def RX4 : String := "EvenWords$Wire"
def RX5 : String := "EvenWords"
def RX6 : String := "EvenWordsModel"
def RX0 : String := "EvenWords$Forms"
def TX1 : u_T := fun k => match k with
  | 0 => ("EvenWords$Orders", "walks", "[LEvenWords$Walk;", true)
  | 1 => ("EvenWords$Orders", "kinds", "[I", true)
  | 2 => ("EvenWords$Orders", "order", "[I", true)
  | 3 => ("EvenWords$Orders", "best", "[I", true)
  | 4 => ("EvenWords$Orders", "many", "I", false)
  | _ => ("EvenWords$Orders", "least", "I", false)
def tyX1 : Nat → FieldType := fun k => match k with
  | 0 => .array (.object "EvenWords$Walk")
  | 1 => .array .int
  | 2 => .array .int
  | 3 => .array .int
  | 4 => .int
  | _ => .int
theorem nmX1 : ∀ a, a < 6 → ∀ b, b < 6 → a ≠ b → (TX1 a).2.1 ≠ (TX1 b).2.1 := by decide +kernel
theorem tyX1_ok : ∀ k, k < 6 → parseFieldDescriptor (TX1 k).2.2.1 = some (tyX1 k) := by decide +kernel
def TX2 : u_T := fun k => match k with
  | 0 => ("EvenWords$Reading", "pieces", "[I", true)
  | 1 => ("EvenWords$Reading", "walk", "LEvenWords$Walk;", true)
  | 2 => ("EvenWords$Reading", "trial", "LEvenWords$Walk;", true)
  | 3 => ("EvenWords$Reading", "from", "I", false)
  | 4 => ("EvenWords$Reading", "begin", "I", false)
  | 5 => ("EvenWords$Reading", "many", "I", false)
  | 6 => ("EvenWords$Reading", "first", "I", false)
  | 7 => ("EvenWords$Reading", "broken", "I", false)
  | 8 => ("EvenWords$Reading", "blamed", "I", false)
  | _ => ("EvenWords$Reading", "lowest", "I", false)
def tyX2 : Nat → FieldType := fun k => match k with
  | 0 => .array .int
  | 1 => .object "EvenWords$Walk"
  | 2 => .object "EvenWords$Walk"
  | 3 => .int
  | 4 => .int
  | 5 => .int
  | 6 => .int
  | 7 => .int
  | 8 => .int
  | _ => .int
theorem nmX2 : ∀ a, a < 10 → ∀ b, b < 10 → a ≠ b → (TX2 a).2.1 ≠ (TX2 b).2.1 := by decide +kernel
theorem tyX2_ok : ∀ k, k < 10 → parseFieldDescriptor (TX2 k).2.2.1 = some (tyX2 k) := by decide +kernel
def TX3 : u_T := fun k => match k with
  | 0 => ("EvenWords$Walk", "sum", "I", false)
  | 1 => ("EvenWords$Walk", "height", "I", false)
  | 2 => ("EvenWords$Walk", "lastBit", "I", false)
  | 3 => ("EvenWords$Walk", "run", "I", false)
  | _ => ("EvenWords$Walk", "longest", "I", false)
def tyX3 : Nat → FieldType := fun k => match k with
  | 0 => .int
  | 1 => .int
  | 2 => .int
  | 3 => .int
  | _ => .int
theorem nmX3 : ∀ a, a < 5 → ∀ b, b < 5 → a ≠ b → (TX3 a).2.1 ≠ (TX3 b).2.1 := by decide +kernel
theorem tyX3_ok : ∀ k, k < 5 → parseFieldDescriptor (TX3 k).2.2.1 = some (tyX3 k) := by decide +kernel
def TX4 : u_T := fun k => match k with
  | 0 => ("EvenWords$Wire", "kinds", "[I", true)
  | 1 => ("EvenWords$Wire", "sent", "[I", true)
  | 2 => ("EvenWords$Wire", "now", "[I", true)
  | 3 => ("EvenWords$Wire", "words", "I", false)
  | 4 => ("EvenWords$Wire", "sum", "I", false)
  | 5 => ("EvenWords$Wire", "olderMark", "I", false)
  | _ => ("EvenWords$Wire", "latestMark", "I", false)
def tyX4 : Nat → FieldType := fun k => match k with
  | 0 => .array .int
  | 1 => .array .int
  | 2 => .array .int
  | 3 => .int
  | 4 => .int
  | 5 => .int
  | _ => .int
theorem nmX4 : ∀ a, a < 7 → ∀ b, b < 7 → a ≠ b → (TX4 a).2.1 ≠ (TX4 b).2.1 := by decide +kernel
theorem tyX4_ok : ∀ k, k < 7 → parseFieldDescriptor (TX4 k).2.2.1 = some (tyX4 k) := by decide +kernel
def TX5 : u_T := fun k => match k with
  | 0 => ("EvenWords", "wire", "LEvenWords$Wire;", true)
  | 1 => ("EvenWords", "earlier", "[LEvenWords$Wire;", true)
  | 2 => ("EvenWords", "images", "[LEvenWords$Wire;", true)
  | 3 => ("EvenWords", "kept", "[Z", true)
  | 4 => ("EvenWords", "text", "[I", true)
  | 5 => ("EvenWords", "told", "[I", true)
  | 6 => ("EvenWords", "reading", "LEvenWords$Reading;", true)
  | 7 => ("EvenWords", "orders", "LEvenWords$Orders;", true)
  | 8 => ("EvenWords", "walk", "LEvenWords$Walk;", true)
  | 9 => ("EvenWords", "letters", "I", false)
  | 10 => ("EvenWords", "items", "I", false)
  | _ => ("EvenWords", "undoable", "I", false)
def tyX5 : Nat → FieldType := fun k => match k with
  | 0 => .object "EvenWords$Wire"
  | 1 => .array (.object "EvenWords$Wire")
  | 2 => .array (.object "EvenWords$Wire")
  | 3 => .array .boolean
  | 4 => .array .int
  | 5 => .array .int
  | 6 => .object "EvenWords$Reading"
  | 7 => .object "EvenWords$Orders"
  | 8 => .object "EvenWords$Walk"
  | 9 => .int
  | 10 => .int
  | _ => .int
theorem nmX5 : ∀ a, a < 12 → ∀ b, b < 12 → a ≠ b → (TX5 a).2.1 ≠ (TX5 b).2.1 := by decide +kernel
theorem tyX5_ok : ∀ k, k < 12 → parseFieldDescriptor (TX5 k).2.2.1 = some (tyX5 k) := by decide +kernel
def TX6 : u_T := fun k => match k with
  | 0 => ("EvenWordsModel", "thrown", "I", false)
  | 1 => ("EvenWordsModel", "s", "[I", true)
  | 2 => ("EvenWordsModel", "past", "[I", true)
  | 3 => ("EvenWordsModel", "undoMany", "I", false)
  | 4 => ("EvenWordsModel", "images", "[I", true)
  | 5 => ("EvenWordsModel", "isKept", "[Z", true)
  | 6 => ("EvenWordsModel", "text", "[I", true)
  | 7 => ("EvenWordsModel", "typed", "I", false)
  | 8 => ("EvenWordsModel", "draft", "[I", true)
  | 9 => ("EvenWordsModel", "draftMany", "I", false)
  | 10 => ("EvenWordsModel", "meant", "[I", true)
  | 11 => ("EvenWordsModel", "inForm", "[I", true)
  | 12 => ("EvenWordsModel", "isLaid", "Z", false)
  | 13 => ("EvenWordsModel", "at", "I", false)
  | 14 => ("EvenWordsModel", "place", "I", false)
  | 15 => ("EvenWordsModel", "token", "I", false)
  | 16 => ("EvenWordsModel", "value", "I", false)
  | 17 => ("EvenWordsModel", "fault", "I", false)
  | 18 => ("EvenWordsModel", "pieces", "I", false)
  | 19 => ("EvenWordsModel", "number", "[I", true)
  | 20 => ("EvenWordsModel", "rightly", "[I", true)
  | 21 => ("EvenWordsModel", "breach", "[I", true)
  | 22 => ("EvenWordsModel", "sumBehind", "[I", true)
  | 23 => ("EvenWordsModel", "blamedMany", "I", false)
  | 24 => ("EvenWordsModel", "lowestBlamed", "I", false)
  | 25 => ("EvenWordsModel", "level", "[I", true)
  | 26 => ("EvenWordsModel", "tailSum", "I", false)
  | 27 => ("EvenWordsModel", "tailBit", "I", false)
  | 28 => ("EvenWordsModel", "tailRun", "I", false)
  | 29 => ("EvenWordsModel", "tailLongest", "I", false)
  | 30 => ("EvenWordsModel", "row", "[I", true)
  | _ => ("EvenWordsModel", "best", "[I", true)
def tyX6 : Nat → FieldType := fun k => match k with
  | 0 => .int
  | 1 => .array .int
  | 2 => .array .int
  | 3 => .int
  | 4 => .array .int
  | 5 => .array .boolean
  | 6 => .array .int
  | 7 => .int
  | 8 => .array .int
  | 9 => .int
  | 10 => .array .int
  | 11 => .array .int
  | 12 => .boolean
  | 13 => .int
  | 14 => .int
  | 15 => .int
  | 16 => .int
  | 17 => .int
  | 18 => .int
  | 19 => .array .int
  | 20 => .array .int
  | 21 => .array .int
  | 22 => .array .int
  | 23 => .int
  | 24 => .int
  | 25 => .array .int
  | 26 => .int
  | 27 => .int
  | 28 => .int
  | 29 => .int
  | 30 => .array .int
  | _ => .array .int
theorem nmX6 : ∀ a, a < 32 → ∀ b, b < 32 → a ≠ b → (TX6 a).2.1 ≠ (TX6 b).2.1 := by decide +kernel
theorem tyX6_ok : ∀ k, k < 32 → parseFieldDescriptor (TX6 k).2.2.1 = some (tyX6 k) := by decide +kernel
abbrev vwCl : List vw_C := [(RX1, TX1, 6), (RX2, TX2, 10), (RX3, TX3, 5), (RX4, TX4, 7), (RX5, TX5, 12), (RX6, TX6, 32)]
def mvTy : List (Nat → FieldType) := [tyX1, tyX2, tyX3, tyX4, tyX5, tyX6]
def mvOwn : List String := ["EvenWords$Orders", "EvenWords$Reading", "EvenWords$Walk", "EvenWords$Wire", "EvenWords", "EvenWordsModel", "EvenWords$Forms", "java/lang/Integer", "java/lang/Math", "EvenWordsLaw"]
def mvY : List MethodName := [⟨"EvenWords$Forms", "isKind", "(I)Z"⟩, ⟨"EvenWords$Forms", "formA", "(I)I"⟩, ⟨"EvenWords$Forms", "formB", "(I)I"⟩, ⟨"EvenWords$Forms", "formDue", "(II)I"⟩, ⟨"EvenWords$Forms", "meaning", "(I)I"⟩, ⟨"EvenWords$Forms", "isRight", "(II)Z"⟩, ⟨"EvenWords$Forms", "sumBehind", "(II)I"⟩, ⟨"EvenWords$Orders", "<init>", "()V"⟩, ⟨"EvenWords$Orders", "search", "(LEvenWords$Wire;I)V"⟩, ⟨"EvenWords$Orders", "walkAhead", "(LEvenWords$Wire;I)V"⟩, ⟨"EvenWords$Orders", "bestAt", "(I)I"⟩, ⟨"EvenWords$Orders", "arrange", "(LEvenWords$Orders;II)V"⟩, ⟨"EvenWords$Orders", "settle", "(I)V"⟩, ⟨"EvenWords$Reading", "<init>", "()V"⟩, ⟨"EvenWords$Reading", "load", "(LEvenWords$Wire;II)V"⟩, ⟨"EvenWords$Reading", "pieceAt", "(I)I"⟩, ⟨"EvenWords$Reading", "sumAhead", "(I)I"⟩, ⟨"EvenWords$Reading", "sumBehind", "(I)I"⟩, ⟨"EvenWords$Reading", "breachesAt", "(I)I"⟩, ⟨"EvenWords$Reading", "check", "()V"⟩, ⟨"EvenWords$Reading", "blame", "()V"⟩, ⟨"EvenWords$Reading", "isRightTurned", "(II)Z"⟩, ⟨"EvenWords$Reading", "late", "()I"⟩, ⟨"EvenWords$Walk", "<init>", "()V"⟩, ⟨"EvenWords$Walk", "start", "(I)V"⟩, ⟨"EvenWords$Walk", "become", "(LEvenWords$Walk;)V"⟩, ⟨"EvenWords$Walk", "step", "(I)V"⟩, ⟨"EvenWords$Walk", "take", "(I)I"⟩, ⟨"EvenWords$Walk", "formBreach", "(I)I"⟩, ⟨"EvenWords$Wire", "<init>", "()V"⟩, ⟨"EvenWords$Wire", "empty", "()V"⟩, ⟨"EvenWords$Wire", "carry", "(LEvenWords$Wire;LEvenWords$Wire;)V"⟩, ⟨"EvenWords$Wire", "send", "(I)I"⟩, ⟨"EvenWords$Wire", "noteMark", "(I)V"⟩, ⟨"EvenWords$Wire", "markSentLately", "(I)I"⟩, ⟨"EvenWords$Wire", "bits", "()I"⟩, ⟨"EvenWords$Wire", "hasBit", "(I)Z"⟩, ⟨"EvenWords$Wire", "bitAt", "(I)I"⟩, ⟨"EvenWords$Wire", "turn", "(I)V"⟩, ⟨"EvenWords$Wire", "placeOf", "(I)I"⟩, ⟨"EvenWords$Wire", "ones", "()I"⟩, ⟨"EvenWords$Wire", "turned", "()I"⟩, ⟨"EvenWords$Wire", "marksSent", "()I"⟩, ⟨"EvenWords", "<init>", "()V"⟩, ⟨"EvenWords", "type", "(I)I"⟩, ⟨"EvenWords", "clear", "()I"⟩, ⟨"EvenWords", "tells", "()I"⟩, ⟨"EvenWords", "sends", "(I)I"⟩, ⟨"EvenWords", "marks", "(I)I"⟩, ⟨"EvenWords", "flips", "(I)I"⟩, ⟨"EvenWords", "clears", "()I"⟩, ⟨"EvenWords", "undo", "()I"⟩, ⟨"EvenWords", "form", "(II)I"⟩, ⟨"EvenWords", "bit", "(I)I"⟩, ⟨"EvenWords", "word", "(I)I"⟩, ⟨"EvenWords", "recent", "(I)I"⟩, ⟨"EvenWords", "piece", "(IIII)I"⟩, ⟨"EvenWords", "read", "(III)I"⟩, ⟨"EvenWords", "cuts", "(I)I"⟩, ⟨"EvenWords", "level", "(II)I"⟩, ⟨"EvenWords", "evenest", "(II)I"⟩, ⟨"EvenWords", "weight", "(I)I"⟩, ⟨"EvenWords", "keep", "(I)I"⟩, ⟨"EvenWords", "back", "(I)I"⟩, ⟨"EvenWords", "count", "(I)I"⟩, ⟨"EvenWords", "sendOne", "(I)I"⟩, ⟨"EvenWords", "remember", "()V"⟩, ⟨"EvenWords", "forgetOldest", "()V"⟩, ⟨"EvenWords", "longestRun", "()I"⟩, ⟨"EvenWords", "faultPlace", "()I"⟩, ⟨"EvenWords", "tokenEnd", "(I)I"⟩, ⟨"EvenWords", "isFigure", "(I)Z"⟩, ⟨"EvenWords", "afterToken", "(III)I"⟩, ⟨"EvenWords", "afterNumber", "(III)I"⟩, ⟨"EvenWords", "numberAt", "(II)I"⟩, ⟨"EvenWords", "canRead", "(II)Z"⟩, ⟨"EvenWords", "sumOf", "(I)I"⟩, ⟨"EvenWords", "signOf", "(I)I"⟩, ⟨"EvenWordsModel", "<init>", "()V"⟩, ⟨"EvenWordsModel", "bares", "()V"⟩, ⟨"EvenWordsModel", "in", "(III)Z"⟩, ⟨"EvenWordsModel", "ones", "(I)I"⟩, ⟨"EvenWordsModel", "isMark", "(I)Z"⟩, ⟨"EvenWordsModel", "kth", "(II)I"⟩, ⟨"EvenWordsModel", "formOf", "(II)I"⟩, ⟨"EvenWordsModel", "lays", "()V"⟩, ⟨"EvenWordsModel", "letterAt", "(I)I"⟩, ⟨"EvenWordsModel", "type", "(I)I"⟩, ⟨"EvenWordsModel", "clear", "()I"⟩, ⟨"EvenWordsModel", "advances", "()V"⟩, ⟨"EvenWordsModel", "takes", "(Z)I"⟩, ⟨"EvenWordsModel", "readsText", "()V"⟩, ⟨"EvenWordsModel", "tells", "()I"⟩, ⟨"EvenWordsModel", "notes", "()V"⟩, ⟨"EvenWordsModel", "remembers", "(I)V"⟩, ⟨"EvenWordsModel", "sent", "(I)I"⟩, ⟨"EvenWordsModel", "sends", "(I)I"⟩, ⟨"EvenWordsModel", "marks", "(I)I"⟩, ⟨"EvenWordsModel", "isBit", "(I)Z"⟩, ⟨"EvenWordsModel", "flips", "(I)I"⟩, ⟨"EvenWordsModel", "clears", "()I"⟩, ⟨"EvenWordsModel", "undo", "()I"⟩, ⟨"EvenWordsModel", "form", "(II)I"⟩, ⟨"EvenWordsModel", "bit", "(I)I"⟩, ⟨"EvenWordsModel", "word", "(I)I"⟩, ⟨"EvenWordsModel", "recent", "(I)I"⟩, ⟨"EvenWordsModel", "bitAt", "(II)I"⟩, ⟨"EvenWordsModel", "reads", "(III)V"⟩, ⟨"EvenWordsModel", "firstBreach", "()I"⟩, ⟨"EvenWordsModel", "isBegin", "(II)Z"⟩, ⟨"EvenWordsModel", "sumOf", "(I)I"⟩, ⟨"EvenWordsModel", "piece", "(IIII)I"⟩, ⟨"EvenWordsModel", "blames", "(II)V"⟩, ⟨"EvenWordsModel", "read", "(III)I"⟩, ⟨"EvenWordsModel", "cuts", "(I)I"⟩, ⟨"EvenWordsModel", "laysLevels", "()V"⟩, ⟨"EvenWordsModel", "longest", "()I"⟩, ⟨"EvenWordsModel", "level", "(II)I"⟩, ⟨"EvenWordsModel", "lengthens", "(I)V"⟩, ⟨"EvenWordsModel", "isOrder", "(II)Z"⟩, ⟨"EvenWordsModel", "laysAhead", "(I)V"⟩, ⟨"EvenWordsModel", "evenestOf", "(I)I"⟩, ⟨"EvenWordsModel", "evenest", "(II)I"⟩, ⟨"EvenWordsModel", "weight", "(I)I"⟩, ⟨"EvenWordsModel", "keep", "(I)I"⟩, ⟨"EvenWordsModel", "back", "(I)I"⟩, ⟨"EvenWordsModel", "turnedMany", "()I"⟩, ⟨"EvenWordsModel", "oneMany", "()I"⟩, ⟨"EvenWordsModel", "markMany", "()I"⟩, ⟨"EvenWordsModel", "count", "(I)I"⟩, ⟨"java/lang/Integer", "bitCount", "(I)I"⟩, ⟨"java/lang/Math", "max", "(II)I"⟩, ⟨"EvenWordsLaw", "law", "([I)Z"⟩]
def mvB : List ByteArray := [prog_2_method_2_code, prog_2_method_3_code, prog_2_method_4_code, prog_2_method_5_code, prog_2_method_6_code, prog_2_method_7_code, prog_2_method_8_code, prog_3_method_1_code, prog_3_method_2_code, prog_3_method_3_code, prog_3_method_4_code, prog_3_method_5_code, prog_3_method_6_code, prog_4_method_1_code, prog_4_method_2_code, prog_4_method_3_code, prog_4_method_4_code, prog_4_method_5_code, prog_4_method_6_code, prog_4_method_7_code, prog_4_method_8_code, prog_4_method_9_code, prog_4_method_10_code, prog_5_method_1_code, prog_5_method_2_code, prog_5_method_3_code, prog_5_method_4_code, prog_5_method_5_code, prog_5_method_6_code, prog_6_method_1_code, prog_6_method_2_code, prog_6_method_3_code, prog_6_method_4_code, prog_6_method_5_code, prog_6_method_6_code, prog_6_method_7_code, prog_6_method_8_code, prog_6_method_9_code, prog_6_method_10_code, prog_6_method_11_code, prog_6_method_12_code, prog_6_method_13_code, prog_6_method_14_code, prog_1_method_1_code, prog_1_method_2_code, prog_1_method_3_code, prog_1_method_4_code, prog_1_method_5_code, prog_1_method_6_code, prog_1_method_7_code, prog_1_method_8_code, prog_1_method_9_code, prog_1_method_10_code, prog_1_method_11_code, prog_1_method_12_code, prog_1_method_13_code, prog_1_method_14_code, prog_1_method_15_code, prog_1_method_16_code, prog_1_method_17_code, prog_1_method_18_code, prog_1_method_19_code, prog_1_method_20_code, prog_1_method_21_code, prog_1_method_22_code, prog_1_method_23_code, prog_1_method_24_code, prog_1_method_25_code, prog_1_method_26_code, prog_1_method_27_code, prog_1_method_28_code, prog_1_method_29_code, prog_1_method_30_code, prog_1_method_31_code, prog_1_method_32_code, prog_1_method_33_code, prog_1_method_34_code, prog_1_method_35_code, prog_8_method_1_code, prog_8_method_2_code, prog_8_method_4_code, prog_8_method_5_code, prog_8_method_6_code, prog_8_method_7_code, prog_8_method_8_code, prog_8_method_9_code, prog_8_method_10_code, prog_8_method_11_code, prog_8_method_12_code, prog_8_method_13_code, prog_8_method_14_code, prog_8_method_15_code, prog_8_method_16_code, prog_8_method_17_code, prog_8_method_18_code, prog_8_method_19_code, prog_8_method_20_code, prog_8_method_21_code, prog_8_method_22_code, prog_8_method_23_code, prog_8_method_24_code, prog_8_method_25_code, prog_8_method_26_code, prog_8_method_27_code, prog_8_method_28_code, prog_8_method_29_code, prog_8_method_30_code, prog_8_method_31_code, prog_8_method_32_code, prog_8_method_33_code, prog_8_method_34_code, prog_8_method_35_code, prog_8_method_36_code, prog_8_method_37_code, prog_8_method_38_code, prog_8_method_39_code, prog_8_method_40_code, prog_8_method_41_code, prog_8_method_42_code, prog_8_method_43_code, prog_8_method_44_code, prog_8_method_45_code, prog_8_method_46_code, prog_8_method_47_code, prog_8_method_48_code, prog_8_method_49_code, prog_8_method_50_code, prog_8_method_51_code, prog_8_method_52_code, prog_8_method_53_code, prog_9_method_49_code, prog_10_method_65_code, code]
def mvMl : List Nat := [1, 1, 1, 2, 1, 3, 3, 2, 5, 5, 2, 6, 3, 1, 7, 2, 4, 2, 4, 2, 4, 4, 1, 1, 2, 2, 2, 4, 2, 1, 1, 3, 3, 2, 3, 1, 2, 2, 2, 1, 3, 3, 3, 2, 2, 2, 3, 2, 2, 2, 2, 1, 3, 2, 2, 2, 6, 4, 4, 8, 3, 6, 2, 2, 2, 2, 1, 3, 2, 4, 3, 2, 5, 4, 4, 2, 1, 1, 1, 2, 3, 3, 1, 5, 3, 3, 2, 2, 2, 2, 3, 3, 2, 2, 2, 4, 2, 2, 2, 2, 2, 2, 3, 2, 2, 3, 3, 13, 2, 2, 1, 5, 5, 7, 5, 3, 4, 8, 5, 6, 3, 11, 4, 6, 3, 3, 5, 3, 3, 2, 1, 2, 4]
def mvNa : List Nat := [1, 1, 1, 2, 1, 2, 2, 1, 3, 3, 2, 3, 2, 1, 4, 2, 2, 2, 2, 1, 1, 3, 1, 1, 2, 2, 2, 2, 2, 1, 1, 2, 2, 2, 2, 1, 2, 2, 2, 1, 1, 1, 1, 1, 2, 1, 1, 2, 2, 2, 1, 1, 3, 2, 2, 2, 5, 4, 2, 3, 3, 2, 2, 2, 2, 2, 1, 1, 1, 1, 2, 2, 4, 4, 3, 2, 1, 1, 1, 1, 3, 1, 1, 2, 2, 1, 2, 2, 1, 1, 2, 1, 1, 1, 2, 2, 2, 2, 2, 2, 1, 1, 3, 2, 2, 2, 3, 4, 1, 2, 1, 5, 3, 4, 2, 1, 1, 3, 2, 3, 2, 2, 3, 2, 2, 2, 1, 1, 1, 2, 1, 2, 1]
def mvO : List Nat := [6, 6, 6, 6, 6, 6, 6, 0, 0, 0, 0, 0, 0, 1, 1, 1, 1, 1, 1, 1, 1, 1, 1, 2, 2, 2, 2, 2, 2, 3, 3, 3, 3, 3, 3, 3, 3, 3, 3, 3, 3, 3, 3, 4, 4, 4, 4, 4, 4, 4, 4, 4, 4, 4, 4, 4, 4, 4, 4, 4, 4, 4, 4, 4, 4, 4, 4, 4, 4, 4, 4, 4, 4, 4, 4, 4, 4, 4, 5, 5, 5, 5, 5, 5, 5, 5, 5, 5, 5, 5, 5, 5, 5, 5, 5, 5, 5, 5, 5, 5, 5, 5, 5, 5, 5, 5, 5, 5, 5, 5, 5, 5, 5, 5, 5, 5, 5, 5, 5, 5, 5, 5, 5, 5, 5, 5, 5, 5, 5, 5, 7, 8, 9]
def mvSt : List Bool := [true, true, true, true, true, true, true, false, false, false, false, true, false, false, false, false, false, false, false, false, false, false, false, false, false, false, false, false, false, false, false, true, false, false, false, false, false, false, false, true, false, false, false, false, false, false, false, false, false, false, false, false, false, false, false, false, false, false, false, false, false, false, false, false, false, false, false, false, false, false, false, false, false, false, false, true, true, true, false, false, true, true, true, true, true, false, false, false, false, false, false, false, false, false, false, false, false, false, false, false, false, false, false, false, false, false, false, false, false, true, true, false, false, false, false, false, false, false, false, false, false, false, false, false, false, false, false, false, false, false, true, true, true]
def mvRt : List (Option FieldType) := [(some .boolean), (some .int), (some .int), (some .int), (some .int), (some .boolean), (some .int), none, none, none, (some .int), none, none, none, none, (some .int), (some .int), (some .int), (some .int), none, none, (some .boolean), (some .int), none, none, none, none, (some .int), (some .int), none, none, none, (some .int), none, (some .int), (some .int), (some .boolean), (some .int), none, (some .int), (some .int), (some .int), (some .int), none, (some .int), (some .int), (some .int), (some .int), (some .int), (some .int), (some .int), (some .int), (some .int), (some .int), (some .int), (some .int), (some .int), (some .int), (some .int), (some .int), (some .int), (some .int), (some .int), (some .int), (some .int), (some .int), none, none, (some .int), (some .int), (some .int), (some .boolean), (some .int), (some .int), (some .int), (some .boolean), (some .int), (some .int), none, none, (some .boolean), (some .int), (some .boolean), (some .int), (some .int), none, (some .int), (some .int), (some .int), none, (some .int), none, (some .int), none, none, (some .int), (some .int), (some .int), (some .boolean), (some .int), (some .int), (some .int), (some .int), (some .int), (some .int), (some .int), (some .int), none, (some .int), (some .boolean), (some .int), (some .int), none, (some .int), (some .int), none, (some .int), (some .int), none, (some .boolean), none, (some .int), (some .int), (some .int), (some .int), (some .int), (some .int), (some .int), (some .int), (some .int), (some .int), (some .int), (some .boolean)]
/-- fields by link: own class, place in its pool, class, number, place of the word in tables_1 -/
def mvF : List (Nat × Nat × Nat × Nat × Nat) := [(3, 9, 3, 0, 24), (0, 44, 3, 0, 25), (4, 111, 3, 0, 26), (3, 15, 3, 1, 27), (0, 53, 3, 1, 28), (3, 18, 3, 2, 29), (3, 21, 3, 3, 30), (0, 35, 3, 3, 31), (4, 63, 3, 3, 32), (3, 25, 3, 4, 33), (4, 201, 3, 4, 34), (3, 28, 3, 5, 35), (3, 31, 3, 6, 36), (2, 9, 2, 0, 66), (0, 70, 2, 0, 67), (2, 15, 2, 1, 68), (4, 184, 2, 1, 69), (2, 18, 2, 2, 70), (2, 21, 2, 3, 71), (2, 24, 2, 4, 72), (0, 60, 2, 4, 73), (4, 219, 2, 4, 74), (1, 9, 1, 0, 87), (1, 18, 1, 1, 88), (1, 22, 1, 2, 89), (1, 25, 1, 3, 90), (1, 29, 1, 4, 91), (1, 32, 1, 5, 92), (4, 128, 1, 5, 93), (1, 35, 1, 6, 94), (4, 156, 1, 6, 95), (1, 38, 1, 7, 96), (4, 159, 1, 7, 97), (1, 41, 1, 8, 98), (4, 165, 1, 8, 99), (1, 44, 1, 9, 100), (4, 168, 1, 9, 101), (0, 11, 0, 0, 132), (0, 17, 0, 1, 133), (0, 21, 0, 2, 134), (0, 24, 0, 3, 135), (0, 27, 0, 4, 136), (0, 31, 0, 5, 137), (4, 191, 0, 5, 138), (4, 12, 4, 0, 154), (4, 16, 4, 1, 155), (4, 20, 4, 2, 156), (4, 23, 4, 3, 157), (4, 27, 4, 4, 158), (4, 31, 4, 5, 159), (4, 37, 4, 6, 160), (4, 44, 4, 7, 161), (4, 51, 4, 8, 162), (4, 55, 4, 9, 163), (4, 66, 4, 10, 164), (4, 93, 4, 11, 165), (5, 59, 5, 0, 519), (5, 7, 5, 1, 520), (5, 13, 5, 2, 521), (5, 126, 5, 3, 522), (5, 16, 5, 4, 523), (5, 19, 5, 5, 524), (5, 23, 5, 6, 525), (5, 82, 5, 7, 526), (5, 26, 5, 8, 527), (5, 110, 5, 9, 528), (5, 29, 5, 10, 529), (5, 32, 5, 11, 530), (5, 75, 5, 12, 531), (5, 89, 5, 13, 532), (5, 95, 5, 14, 533), (5, 98, 5, 15, 534), (5, 101, 5, 16, 535), (5, 104, 5, 17, 536), (5, 139, 5, 18, 537), (5, 35, 5, 19, 538), (5, 38, 5, 20, 539), (5, 41, 5, 21, 540), (5, 44, 5, 22, 541), (5, 156, 5, 23, 542), (5, 159, 5, 24, 543), (5, 47, 5, 25, 544), (5, 175, 5, 26, 545), (5, 178, 5, 27, 546), (5, 181, 5, 28, 547), (5, 184, 5, 29, 548), (5, 50, 5, 30, 549), (5, 53, 5, 31, 550)]
/-- methods by link: own class, place in its pool, method, of a nest mate, place of the word -/
def mvC : List (Nat × Nat × Nat × Bool × Nat) := [(9, 9, 43, false, 12), (4, 11, 29, true, 20), (4, 36, 13, true, 56), (1, 17, 23, true, 62), (4, 43, 7, false, 125), (0, 34, 23, true, 131), (4, 50, 23, true, 153), (9, 13, 44, false, 191), (9, 18, 45, false, 195), (9, 23, 46, false, 199), (4, 59, 69, false, 203), (4, 222, 70, false, 207), (4, 229, 71, false, 211), (4, 225, 72, false, 215), (4, 232, 74, false, 219), (4, 236, 73, false, 223), (4, 69, 66, false, 227), (4, 216, 67, false, 231), (4, 96, 31, false, 235), (4, 72, 32, false, 238), (3, 34, 3, false, 242), (6, 19, 2, false, 245), (6, 15, 1, false, 248), (3, 40, 6, false, 253), (6, 32, 130, false, 256), (3, 43, 33, false, 262), (9, 27, 47, false, 266), (4, 76, 65, false, 270), (9, 31, 48, false, 274), (9, 35, 49, false, 278), (4, 79, 36, false, 282), (3, 47, 35, false, 286), (4, 83, 38, false, 290), (3, 51, 36, false, 294), (3, 55, 39, false, 295), (4, 87, 37, false, 298), (9, 39, 50, false, 302), (4, 90, 30, false, 306), (9, 43, 51, false, 310), (9, 47, 52, false, 314), (4, 100, 0, false, 318), (4, 105, 1, false, 321), (4, 108, 2, false, 322), (9, 52, 53, false, 323), (9, 56, 54, false, 327), (9, 60, 55, false, 331), (4, 114, 34, false, 335), (9, 64, 56, false, 339), (4, 117, 75, false, 343), (4, 121, 76, false, 346), (4, 124, 14, false, 349), (1, 47, 35, false, 353), (1, 53, 37, false, 354), (4, 131, 15, false, 355), (4, 134, 4, false, 359), (4, 137, 16, false, 364), (1, 57, 15, false, 368), (1, 60, 6, false, 369), (4, 140, 5, false, 370), (6, 25, 4, false, 373), (6, 28, 3, false, 374), (4, 143, 18, false, 375), (1, 69, 24, false, 379), (1, 73, 27, false, 383), (2, 33, 28, false, 387), (2, 46, 4, false, 391), (2, 49, 5, false, 392), (2, 37, 26, false, 393), (2, 27, 131, false, 397), (2, 41, 6, false, 400), (4, 146, 17, false, 401), (1, 66, 16, false, 405), (4, 149, 77, false, 406), (9, 69, 57, false, 409), (4, 153, 19, false, 414), (4, 162, 20, false, 418), (1, 76, 21, false, 422), (1, 80, 25, false, 426), (4, 171, 22, false, 430), (9, 74, 58, false, 435), (9, 78, 59, false, 439), (4, 175, 24, false, 444), (4, 178, 35, false, 445), (4, 181, 26, false, 446), (9, 82, 60, false, 447), (4, 187, 8, false, 451), (0, 40, 9, false, 455), (0, 49, 24, false, 459), (0, 56, 27, false, 460), (0, 45, 11, false, 461), (0, 63, 12, false, 464), (0, 66, 25, false, 468), (0, 73, 3, false, 469), (4, 194, 10, false, 470), (9, 86, 61, false, 474), (9, 90, 62, false, 480), (9, 94, 63, false, 484), (9, 98, 64, false, 488), (4, 204, 40, false, 492), (3, 59, 130, false, 496), (4, 207, 41, false, 497), (4, 210, 68, false, 501), (4, 213, 42, false, 505), (9, 12, 78, false, 511), (5, 56, 79, false, 515), (9, 17, 87, false, 616), (5, 85, 80, false, 620), (9, 22, 88, false, 623), (9, 26, 92, false, 627), (5, 117, 91, false, 631), (5, 107, 89, false, 635), (5, 92, 86, false, 639), (5, 113, 90, false, 643), (5, 120, 93, false, 647), (5, 123, 95, false, 651), (5, 79, 84, false, 655), (5, 71, 83, false, 658), (5, 63, 81, false, 661), (5, 67, 82, false, 664), (5, 129, 94, false, 667), (9, 30, 96, false, 671), (9, 34, 97, false, 675), (9, 38, 99, false, 679), (5, 133, 98, false, 683), (9, 42, 100, false, 687), (9, 46, 101, false, 691), (9, 51, 102, false, 695), (9, 55, 103, false, 699), (9, 59, 104, false, 703), (9, 63, 105, false, 707), (9, 68, 111, false, 711), (5, 145, 109, false, 715), (5, 149, 110, false, 718), (5, 152, 107, false, 721), (5, 136, 85, false, 725), (5, 142, 106, false, 729), (9, 73, 113, false, 733), (5, 162, 108, false, 738), (5, 167, 112, false, 742), (9, 77, 114, false, 747), (9, 81, 117, false, 751), (5, 172, 115, false, 755), (9, 85, 122, false, 759), (5, 196, 121, false, 763), (5, 190, 120, false, 767), (5, 187, 118, false, 771), (5, 193, 119, false, 775), (9, 89, 123, false, 779), (9, 93, 124, false, 785), (9, 97, 125, false, 789), (9, 101, 129, false, 793), (5, 203, 127, false, 797), (5, 206, 126, false, 801), (5, 209, 116, false, 805), (5, 212, 128, false, 809)]
/-- links of Object's constructor -/
def mvOb : List (Nat × Nat × Nat) := [(4, 3, 15), (3, 3, 23), (1, 3, 59), (2, 3, 65), (0, 3, 128), (5, 1, 514)]
/-- classes by link -/
def mvN : List (Nat × Nat × Nat × Nat) := [(9, 7, 4, 10), (4, 9, 3, 18), (4, 34, 1, 54), (1, 15, 2, 60), (4, 41, 0, 123), (0, 9, 2, 129), (4, 48, 2, 152), (9, 10, 5, 509)]
/-- constants -/
def mvK : List (Nat × Nat × Int32 × Nat) := [(7, 265, (1431655765), 259), (7, 266, (858993459), 260), (7, 267, (252645135), 261), (4, 152, (-1000000), 413), (1, 84, (-2000000), 434), (4, 174, (-2000000), 443), (5, 166, (-1000000), 737), (5, 171, (-2000000), 746)]
def mvKl : List (Nat × Nat × Int64 × Nat) := [(4, 197, (-999999), 478), (4, 199, (999999), 479), (5, 199, (-999999), 783), (5, 201, (999999), 784)]
/-- static arrays by link -/
def mvS : List (Nat × Nat × Nat × Nat) := [(6, 9, 0, 251), (6, 22, 1, 362)]
/-- a field: 0 int, 1 boolean, 2 a reference; final -/
def mvFt : List (List (Nat × Bool)) := [[(2, true), (2, true), (2, true), (2, true), (0, false), (0, false)], [(2, true), (2, true), (2, true), (0, false), (0, false), (0, false), (0, false), (0, false), (0, false), (0, false)], [(0, false), (0, false), (0, false), (0, false), (0, false)], [(2, true), (2, true), (2, true), (0, false), (0, false), (0, false), (0, false)], [(2, true), (2, true), (2, true), (2, true), (2, true), (2, true), (2, true), (2, true), (2, true), (0, false), (0, false), (0, false)], [(0, false), (2, true), (2, true), (0, false), (2, true), (2, true), (2, true), (0, false), (2, true), (0, false), (2, true), (2, true), (1, false), (0, false), (0, false), (0, false), (0, false), (0, false), (0, false), (2, true), (2, true), (2, true), (2, true), (0, false), (0, false), (2, true), (0, false), (0, false), (0, false), (0, false), (2, true), (2, true)]]
end
section
/-! A SMALL PURE MACHINE: what the bytecode does to a pure memory. Addresses are places of a list of cells: 0, 1 the two static arrays, 2 the script, 3 and on what was made since the law's start. -/
/-- how many cells there are, how many slots were made, and each cell's kind (0 to 5 an object of that class, 6 int[], 7 boolean[], 8 Walk[], 9 Wire[], 10 an int[] that is only read, 99 none) and length -/
abbrev mL : Type := Nat × Nat × (Nat → Nat × Nat)
/-- the memory: the cells' kinds, the objects' fields, the int and boolean arrays, the arrays of references -/
abbrev mM : Type := mL × (Nat → Nat → Value) × (Nat → Nat → Int32) × (Nat → Nat → Option Nat)
def kd (t : mL) (a : Nat) : Nat := (t.2.2 a).1
def ln (t : mL) (a : Nat) : Nat := (t.2.2 a).2
def up1 {α : Type} (f : Nat → α) (a : Nat) (r : α) : Nat → α := fun b => if b = a then r else f b
/-- a row of fields -/
def rw' (l : List Value) : Nat → Value := fun k => l.getD k .null
def mvFl (o i : Nat) : Option (Nat × Nat) := (mvF.find? (fun q => q.1 == o && q.2.1 == i)).map (fun q => (q.2.2.1, q.2.2.2.1))
def mvCl (o i : Nat) : Option Nat := (mvC.find? (fun q => q.1 == o && q.2.1 == i)).map (fun q => q.2.2.1)
def mvObl (o i : Nat) : Bool := mvOb.any (fun q => q.1 == o && q.2.1 == i)
def mvNl (o i : Nat) : Option Nat := (mvN.find? (fun q => q.1 == o && q.2.1 == i)).map (fun q => q.2.2.1)
def mvKi (o i : Nat) : Option Int32 := (mvK.find? (fun q => q.1 == o && q.2.1 == i)).map (fun q => q.2.2.1)
def mvKli (o i : Nat) : Option Int64 := (mvKl.find? (fun q => q.1 == o && q.2.1 == i)).map (fun q => q.2.2.1)
def mvSl (o i : Nat) : Option Nat := (mvS.find? (fun q => q.1 == o && q.2.1 == i)).map (fun q => q.2.2.1)
def bOf (M : Nat) : ByteArray := mvB.getD M ⟨#[]⟩
def oOf (M : Nat) : Nat := mvO.getD M 99
def mlOf (M : Nat) : Nat := mvMl.getD M 0
def naOf (M : Nat) : Nat := mvNa.getD M 0
def stOf (M : Nat) : Bool := mvSt.getD M false
def rtOf (M : Nat) : Option FieldType := mvRt.getD M none
def ftOf (ci k : Nat) : Nat × Bool := (mvFt.getD ci []).getD k (9, false)
def nfOf (ci : Nat) : Nat := (mvFt.getD ci []).length
/-- what a new object's field holds -/
def dfOf (ci : Nat) : List Value := (mvFt.getD ci []).map (fun q => if q.1 = 2 then Value.null else Value.int 0)
def isInit (M : Nat) : Bool := M == 7 || M == 13 || M == 23 || M == 29 || M == 43 || M == 78
/-- may this value go into this field -/
def mayPut (M ci k : Nat) (v : Value) : Bool :=
  (match (ftOf ci k).1, v with
    | 0, .int _ => true
    | 1, .int x => x == 0 || x == 1
    | 2, .ref _ => true
    | _, _ => false) && (!(ftOf ci k).2 || (isInit M && oOf M == ci))
/-- no long lies across this place -/
def stOK (L : List Value) (i : Nat) : Bool := decide (i < L.length) && (match i with
  | 0 => true
  | j + 1 => decide ((L.getD j .null).category = 1))
/-- an index in its row -/
def inB (i : Int32) (n : Nat) : Bool := decide (0 ≤ i.toInt ∧ i.toInt < n)
/-- the receiver is an object of that class -/
def rcv (a : List Value) (t : mL) (c : Nat) : Bool := match a with
  | .ref b :: _ => decide (kd t b = c)
  | _ => false
def rcI (a : List Value) : Bool := match a with
  | .ref _ :: _ => true
  | _ => false
def tgt (pc : Nat) (off : Int) : Nat := ((pc : Int) + off).toNat
def mCmp (c : Jvm.ClassFile.Cond) (x y : Int32) : Bool := match c with
  | .eq => decide (x = y)
  | .ne => decide (¬ x = y)
  | .lt => decide (x < y)
  | .ge => decide (y ≤ x)
  | .gt => decide (y < x)
  | .le => decide (x ≤ y)
def stdLen (i : Instr) : Nat := match i with
  | .bipush _ | .ldc _ | .iload _ | .aload _ | .lload _ | .istore _ | .astore _ | .lstore _ | .newarray _ => 2
  | .sipush _ | .ldc_w _ | .ldc2_w _ | .iinc _ _ | .if_icmp _ _ | .ifCond _ _ | .ifnull _ | .ifnonnull _ | .goto _ | .getfield _ | .putfield _ | .getstatic _ | .invokevirtual _ | .invokespecial _ | .invokestatic _ | .new _ | .anewarray _ => 3
  | _ => 1
def lenOK (i : Instr) (len : Nat) : Prop := match i with
  | .tableswitch _ _ _ _ => True
  | _ => len = stdLen i
/-- an instruction that neither calls nor returns -/
def mNext (M : Nat) (i : Instr) (pc : Nat) (L st : List Value) (μ : mM) : Option (Nat × List Value × List Value × mM) :=
  match i with
  | .iconst c => some (pc + 1, L, .int (Int32.ofInt c) :: st, μ)
  | .bipush c => some (pc + 2, L, .int (Int8.ofInt c).toInt32 :: st, μ)
  | .sipush c => some (pc + 3, L, .int (Int16.ofInt c).toInt32 :: st, μ)
  | .lconst n => some (pc + 1, L, .long (Int64.ofNat (n : Nat)) :: st, μ)
  | .ldc j => (match mvKi (oOf M) j with
    | some v => some (pc + 2, L, .int v :: st, μ)
    | none => none)
  | .ldc_w j => (match mvKi (oOf M) j with
    | some v => some (pc + 3, L, .int v :: st, μ)
    | none => none)
  | .ldc2_w j => (match mvKli (oOf M) j with
    | some v => some (pc + 3, L, .long v :: st, μ)
    | none => none)
  | .iload_n k => (match L[(k : Nat)]? with
    | some (.int x) => some (pc + 1, L, .int x :: st, μ)
    | _ => none)
  | .iload k => (match L[k]? with
    | some (.int x) => some (pc + 2, L, .int x :: st, μ)
    | _ => none)
  | .aload_n k => (match L[(k : Nat)]? with
    | some (.ref x) => some (pc + 1, L, .ref x :: st, μ)
    | _ => none)
  | .aload k => (match L[k]? with
    | some (.ref x) => some (pc + 2, L, .ref x :: st, μ)
    | _ => none)
  | .lload_n k => (match L[(k : Nat)]? with
    | some (.long x) => some (pc + 1, L, .long x :: st, μ)
    | _ => none)
  | .lload k => (match L[k]? with
    | some (.long x) => some (pc + 2, L, .long x :: st, μ)
    | _ => none)
  | .istore_n k => (match st with
    | .int x :: r => if stOK L k = true then some (pc + 1, L.set k (.int x), r, μ) else none
    | _ => none)
  | .istore k => (match st with
    | .int x :: r => if stOK L k = true then some (pc + 2, L.set k (.int x), r, μ) else none
    | _ => none)
  | .astore_n k => (match st with
    | .ref x :: r => if stOK L k = true then some (pc + 1, L.set k (.ref x), r, μ) else none
    | _ => none)
  | .astore k => (match st with
    | .ref x :: r => if stOK L k = true then some (pc + 2, L.set k (.ref x), r, μ) else none
    | _ => none)
  | .lstore_n k => (match st with
    | .long x :: r => if stOK L k = true ∧ (k : Nat) + 1 < L.length ∧ (L.getD (k + 1) .null).category = 1 then some (pc + 1, (L.set k (.long x)).set (k + 1) .null, r, μ) else none
    | _ => none)
  | .lstore k => (match st with
    | .long x :: r => if stOK L k = true ∧ (k : Nat) + 1 < L.length ∧ (L.getD (k + 1) .null).category = 1 then some (pc + 2, (L.set k (.long x)).set (k + 1) .null, r, μ) else none
    | _ => none)
  | .iinc k c => (match L[k]? with
    | some (.int x) => if stOK L k = true then some (pc + 3, L.set k (.int (x + Int32.ofInt c)), st, μ) else none
    | _ => none)
  | .iadd => (match st with
    | .int y :: .int x :: r => some (pc + 1, L, .int (x + y) :: r, μ)
    | _ => none)
  | .isub => (match st with
    | .int y :: .int x :: r => some (pc + 1, L, .int (x - y) :: r, μ)
    | _ => none)
  | .imul => (match st with
    | .int y :: .int x :: r => some (pc + 1, L, .int (x * y) :: r, μ)
    | _ => none)
  | .idiv => (match st with
    | .int y :: .int x :: r => if y = 0 then none else some (pc + 1, L, .int (x / y) :: r, μ)
    | _ => none)
  | .irem => (match st with
    | .int y :: .int x :: r => if y = 0 then none else some (pc + 1, L, .int (x - x / y * y) :: r, μ)
    | _ => none)
  | .ineg => (match st with
    | .int x :: r => some (pc + 1, L, .int (-x) :: r, μ)
    | _ => none)
  | .iand => (match st with
    | .int y :: .int x :: r => some (pc + 1, L, .int (x &&& y) :: r, μ)
    | _ => none)
  | .ior => (match st with
    | .int y :: .int x :: r => some (pc + 1, L, .int (x ||| y) :: r, μ)
    | _ => none)
  | .ixor => (match st with
    | .int y :: .int x :: r => some (pc + 1, L, .int (x ^^^ y) :: r, μ)
    | _ => none)
  | .ishl => (match st with
    | .int y :: .int x :: r => some (pc + 1, L, .int (x <<< (y &&& 31)) :: r, μ)
    | _ => none)
  | .ishr => (match st with
    | .int y :: .int x :: r => some (pc + 1, L, .int (x >>> (y &&& 31)) :: r, μ)
    | _ => none)
  | .iushr => (match st with
    | .int y :: .int x :: r => some (pc + 1, L, .int (x.toUInt32 >>> (y.toUInt32 &&& Int32.toUInt32 31)).toInt32 :: r, μ)
    | _ => none)
  | .i2l => (match st with
    | .int x :: r => some (pc + 1, L, .long x.toInt64 :: r, μ)
    | _ => none)
  | .l2i => (match st with
    | .long x :: r => some (pc + 1, L, .int x.toInt32 :: r, μ)
    | _ => none)
  | .ladd => (match st with
    | .long y :: .long x :: r => some (pc + 1, L, .long (x + y) :: r, μ)
    | _ => none)
  | .lmul => (match st with
    | .long y :: .long x :: r => some (pc + 1, L, .long (x * y) :: r, μ)
    | _ => none)
  | .lcmp => (match st with
    | .long y :: .long x :: r => some (pc + 1, L, .int (lg_cmp x y) :: r, μ)
    | _ => none)
  | .dup => (match st with
    | v :: r => if v.category = 1 then some (pc + 1, L, v :: v :: r, μ) else none
    | _ => none)
  | .dup2 => (match st with
    | v :: w :: r => if v.category = 1 ∧ w.category = 1 then some (pc + 1, L, v :: w :: v :: w :: r, μ) else none
    | _ => none)
  | .pop => (match st with
    | v :: r => if v.category = 1 then some (pc + 1, L, r, μ) else none
    | _ => none)
  | .if_icmp c off => (match st with
    | .int y :: .int x :: r => if 0 ≤ (pc : Int) + off then some (if mCmp c x y = true then tgt pc off else pc + 3, L, r, μ) else none
    | _ => none)
  | .ifCond c off => (match st with
    | .int x :: r => if 0 ≤ (pc : Int) + off then some (if mCmp c x 0 = true then tgt pc off else pc + 3, L, r, μ) else none
    | _ => none)
  | .goto off => if 0 ≤ (pc : Int) + off then some (tgt pc off, L, st, μ) else none
  | .ifnull off => (match st with
    | .ref _ :: r => some (pc + 3, L, r, μ)
    | _ => none)
  | .ifnonnull off => (match st with
    | .ref _ :: r => if 0 ≤ (pc : Int) + off then some (tgt pc off, L, r, μ) else none
    | _ => none)
  | .tableswitch d lo hi offs => (match st with
    | .int x :: r => if x.toInt < lo ∨ hi < x.toInt then (if 0 ≤ (pc : Int) + d then some (tgt pc d, L, r, μ) else none)
      else (match offs[(x.toInt - lo).toNat]? with
        | some off => if 0 ≤ (pc : Int) + off then some (tgt pc off, L, r, μ) else none
        | none => none)
    | _ => none)
  | .getfield j => (match mvFl (oOf M) j, st with
    | some (ci, k), .ref a :: r => if kd μ.1 a = ci ∧ k < nfOf ci then some (pc + 3, L, μ.2.1 a k :: r, μ) else none
    | _, _ => none)
  | .putfield j => (match mvFl (oOf M) j, st with
    | some (ci, k), v :: .ref a :: r => if kd μ.1 a = ci ∧ k < nfOf ci ∧ mayPut M ci k v = true then some (pc + 3, L, r, (μ.1, up1 μ.2.1 a (up1 (μ.2.1 a) k v), μ.2.2.1, μ.2.2.2)) else none
    | _, _ => none)
  | .getstatic j => (match mvSl (oOf M) j with
    | some a => some (pc + 3, L, .ref a :: st, μ)
    | none => none)
  | .iaload => (match st with
    | .int i :: .ref a :: r => if (kd μ.1 a = 6 ∨ kd μ.1 a = 10) ∧ inB i (ln μ.1 a) = true then some (pc + 1, L, .int (μ.2.2.1 a i.toNatClampNeg) :: r, μ) else none
    | _ => none)
  | .baload => (match st with
    | .int i :: .ref a :: r => if kd μ.1 a = 7 ∧ inB i (ln μ.1 a) = true then some (pc + 1, L, .int (μ.2.2.1 a i.toNatClampNeg) :: r, μ) else none
    | _ => none)
  | .iastore => (match st with
    | .int x :: .int i :: .ref a :: r => if kd μ.1 a = 6 ∧ inB i (ln μ.1 a) = true then some (pc + 1, L, r, (μ.1, μ.2.1, up1 μ.2.2.1 a (upd (μ.2.2.1 a) i.toNatClampNeg x), μ.2.2.2)) else none
    | _ => none)
  | .bastore => (match st with
    | .int x :: .int i :: .ref a :: r => if kd μ.1 a = 7 ∧ inB i (ln μ.1 a) = true ∧ (x = 0 ∨ x = 1) then some (pc + 1, L, r, (μ.1, μ.2.1, up1 μ.2.2.1 a (upd (μ.2.2.1 a) i.toNatClampNeg x), μ.2.2.2)) else none
    | _ => none)
  | .aaload => (match st with
    | .int i :: .ref a :: r => if (kd μ.1 a = 8 ∨ kd μ.1 a = 9) ∧ inB i (ln μ.1 a) = true then some (pc + 1, L, va_rf (μ.2.2.2 a i.toNatClampNeg) :: r, μ) else none
    | _ => none)
  | .aastore => (match st with
    | .ref v :: .int i :: .ref a :: r => if ((kd μ.1 a = 8 ∧ kd μ.1 v = 2) ∨ (kd μ.1 a = 9 ∧ kd μ.1 v = 3)) ∧ inB i (ln μ.1 a) = true then some (pc + 1, L, r, (μ.1, μ.2.1, μ.2.2.1, up1 μ.2.2.2 a (up1 (μ.2.2.2 a) i.toNatClampNeg (some v)))) else none
    | _ => none)
  | .arraylength => (match st with
    | .ref a :: r => if 6 ≤ kd μ.1 a ∧ kd μ.1 a ≤ 10 then some (pc + 1, L, .int (Int32.ofNat (ln μ.1 a)) :: r, μ) else none
    | _ => none)
  | .newarray t => (match t, st with
    | .int, .int n :: r => if n < 0 ∨ 100000 ≤ n.toNatClampNeg then none else some (pc + 2, L, .ref μ.1.1 :: r, ((μ.1.1 + 1, μ.1.2.1 + n.toNatClampNeg, up1 μ.1.2.2 μ.1.1 (6, n.toNatClampNeg)), μ.2.1, up1 μ.2.2.1 μ.1.1 (fun _ => 0), μ.2.2.2))
    | .boolean, .int n :: r => if n < 0 ∨ 100000 ≤ n.toNatClampNeg then none else some (pc + 2, L, .ref μ.1.1 :: r, ((μ.1.1 + 1, μ.1.2.1 + n.toNatClampNeg, up1 μ.1.2.2 μ.1.1 (7, n.toNatClampNeg)), μ.2.1, up1 μ.2.2.1 μ.1.1 (fun _ => 0), μ.2.2.2))
    | _, _ => none)
  | .anewarray j => (match mvNl (oOf M) j, st with
    | some ci, .int n :: r => if n < 0 ∨ 100000 ≤ n.toNatClampNeg ∨ ¬ (ci = 2 ∨ ci = 3) then none else some (pc + 3, L, .ref μ.1.1 :: r, ((μ.1.1 + 1, μ.1.2.1 + n.toNatClampNeg, up1 μ.1.2.2 μ.1.1 (ci + 6, n.toNatClampNeg)), μ.2.1, μ.2.2.1, up1 μ.2.2.2 μ.1.1 (fun _ => none)))
    | _, _ => none)
  | .new j => (match mvNl (oOf M) j with
    | some ci => if ci < 6 then some (pc + 3, L, .ref μ.1.1 :: st, ((μ.1.1 + 1, μ.1.2.1 + nfOf ci, up1 μ.1.2.2 μ.1.1 (ci, nfOf ci)), up1 μ.2.1 μ.1.1 (rw' (dfOf ci)), μ.2.2.1, μ.2.2.2)) else none
    | none => none)
  | .invokespecial j => if mvObl (oOf M) j = true then (match st with
    | .ref a :: r => if (r.map fun v => v.category).sum ≤ 8 then some (pc + 3, L, r, μ) else none
    | _ => none) else none
  | .invokestatic j => if mvCl (oOf M) j = some 131 then (match st with
    | .int y :: .int x :: r => if (r.map fun v => v.category).sum ≤ 8 then some (pc + 3, L, .int (if x < y then y else x) :: r, μ) else none
    | _ => none) else none
  | _ => none
/-- a call: the method, its arguments, what stays on the stack -/
def mCall (M : Nat) (i : Instr) (st : List Value) (t : mL) : Option (Nat × List Value × List Value) :=
  match i with
  | .invokestatic j => (match mvCl (oOf M) j with
    | some k => if naOf k ≤ st.length ∧ stOf k = true ∧ k < 131 then some (k, (st.take (naOf k)).reverse, st.drop (naOf k)) else none
    | none => none)
  | .invokevirtual j => (match mvCl (oOf M) j with
    | some k => if naOf k ≤ st.length ∧ stOf k = false ∧ isInit k = false ∧ k < 131 ∧ rcv (st.take (naOf k)).reverse t (oOf k) = true then some (k, (st.take (naOf k)).reverse, st.drop (naOf k)) else none
    | none => none)
  | .invokespecial j => (match mvCl (oOf M) j with
    | some k => if naOf k ≤ st.length ∧ stOf k = false ∧ isInit k = true ∧ k < 131 ∧ rcI (st.take (naOf k)).reverse = true then some (k, (st.take (naOf k)).reverse, st.drop (naOf k)) else none
    | none => none)
  | _ => none
/-- a return -/
def mRet (M : Nat) (i : Instr) (st : List Value) : Option (Option Value) :=
  match i, st with
  | .ireturn, [.int x] => (match rtOf M with
    | some .int => some (some (.int x))
    | some .boolean => if x = 0 ∨ x = 1 then some (some (.int x)) else none
    | _ => none)
  | .return_, [] => (match rtOf M with
    | none => some none
    | _ => none)
  | _, _ => none
/-- from here, in so many steps, with calls as R tells them, the method ends with this answer and memory -/
def xR (R : Nat → List Value → mM → Option Value → mM → Prop) (M : Nat) : Nat → Nat → List Value → List Value → mM → Option Value → mM → Prop
  | 0, _, _, _, _, _, _ => False
  | n + 1, pc, L, st, μ, v, μ' => ∃ (i : Instr) (len : Nat), decode (bOf M) pc = .ok (i, len) ∧ lenOK i len ∧
    (mRet M i st = some v ∧ μ' = μ ∨
     (∃ (pc1 : Nat) (L1 st1 : List Value) (μ1 : mM), mNext M i pc L st μ = some (pc1, L1, st1, μ1) ∧ xR R M n pc1 L1 st1 μ1 v μ') ∨
     (∃ (k : Nat) (a r : List Value) (v1 : Option Value) (μ1 : mM), mCall M i st μ.1 = some (k, a, r) ∧ (r.map fun v => v.category).sum ≤ 8 ∧ R k a μ v1 μ1 ∧ xR R M n (pc + 3) L (v1.toList ++ r) μ1 v μ'))
def enL (k : Nat) (a : List Value) : List Value := a ++ List.replicate (mlOf k - a.length) .null
/-- a method's run, calls no deeper than d -/
def run : Nat → Nat → List Value → mM → Option Value → mM → Prop
  | 0, _, _, _, _, _ => False
  | d + 1, k, a, μ, v, μ' => a.length = naOf k ∧ a.all (fun v => v.category == 1) = true ∧ ∃ n, xR (run d) k n 0 (enL k a) [] μ v μ'
/-- from here the method ends so that Q holds of its answer and memory -/
def Ev (d M pc : Nat) (L st : List Value) (μ : mM) (Q : Option Value → mM → Prop) : Prop := ∃ n v μ', xR (run d) M n pc L st μ v μ' ∧ Q v μ'
def Call (d k : Nat) (a : List Value) (μ : mM) (Q : Option Value → mM → Prop) : Prop := ∃ v μ', run d k a μ v μ' ∧ Q v μ'
end
section
/-! THE SMALL MACHINE'S RULES, as equations -/
def iI (z : Int) : Int32 := Int32.ofInt z
theorem iI0 : iI 0 = 0 := by decide +kernel
def isB (x : Int32) : Prop := x = 0 ∨ x = 1
section EV
variable {d M pc len : Nat} {L st : List Value} {μ : mM} {Q : Option Value → mM → Prop} {t : mL} {V : Nat → Nat → Value} {A : Nat → Nat → Int32} {P : Nat → Nat → Option Nat}
theorem ev_next {i : Instr} {pc1 : Nat} {L1 st1 : List Value} {μ1 : mM} (hd : decode (bOf M) pc = .ok (i, len)) (hl : lenOK i len) (hr : mRet M i st = none) (hc : mCall M i st μ.1 = none) (hn : mNext M i pc L st μ = some (pc1, L1, st1, μ1)) : Ev d M pc L st μ Q = Ev d M pc1 L1 st1 μ1 Q := by
  apply propext
  constructor
  · rintro ⟨n, v, μ', h, hq⟩
    cases n with
    | zero => exact absurd h (by simp [xR])
    | succ n =>
      obtain ⟨i', len', hd', -, h⟩ := h
      rw [hd] at hd'
      cases hd'
      rcases h with ⟨h, -⟩ | ⟨a, b, c, e, h, h2⟩ | ⟨k, a, r, v1, μ1, h, -⟩
      · rw [hr] at h; cases h
      · rw [hn] at h
        cases h
        exact ⟨n, v, μ', h2, hq⟩
      · rw [hc] at h; cases h
  · rintro ⟨n, v, μ', h, hq⟩
    exact ⟨n + 1, v, μ', ⟨i, len, hd, hl, Or.inr (Or.inl ⟨_, _, _, _, hn, h⟩)⟩, hq⟩
theorem ev_ret {i : Instr} {v0 : Option Value} (hd : decode (bOf M) pc = .ok (i, len)) (hl : lenOK i len) (hr : mRet M i st = some v0) (hc : mCall M i st μ.1 = none) (hn : mNext M i pc L st μ = none) : Ev d M pc L st μ Q = Q v0 μ := by
  apply propext
  constructor
  · rintro ⟨n, v, μ', h, hq⟩
    cases n with
    | zero => exact absurd h (by simp [xR])
    | succ n =>
      obtain ⟨i', len', hd', -, h⟩ := h
      rw [hd] at hd'
      cases hd'
      rcases h with ⟨h, h2⟩ | ⟨a, b, c, e, h, h2⟩ | ⟨k, a, r, v1, μ1, h, -⟩
      · rw [hr] at h; cases h; rw [← h2]; exact hq
      · rw [hn] at h; cases h
      · rw [hc] at h; cases h
  · intro h
    exact ⟨1, v0, μ, ⟨i, len, hd, hl, Or.inl ⟨hr, rfl⟩⟩, h⟩
theorem ev_call {i : Instr} {k : Nat} {a r : List Value} (hd : decode (bOf M) pc = .ok (i, len)) (hl : lenOK i len) (hr : mRet M i st = none) (hc : mCall M i st μ.1 = some (k, a, r)) (hs : (r.map fun v => v.category).sum ≤ 8) (hn : mNext M i pc L st μ = none) : Ev d M pc L st μ Q = Call d k a μ (fun v μ1 => Ev d M (pc + 3) L (v.toList ++ r) μ1 Q) := by
  apply propext
  constructor
  · rintro ⟨n, v, μ', h, hq⟩
    cases n with
    | zero => exact absurd h (by simp [xR])
    | succ n =>
      obtain ⟨i', len', hd', -, h⟩ := h
      rw [hd] at hd'
      cases hd'
      rcases h with ⟨h, h2⟩ | ⟨a, b, c, e, h, h2⟩ | ⟨k, a, r, v1, μ1, h, -, h2, h3⟩
      · rw [hr] at h; cases h
      · rw [hn] at h; cases h
      · rw [hc] at h; cases h; exact ⟨v1, μ1, h2, n, v, μ', h3, hq⟩
  · rintro ⟨v1, μ1, h1, n, v, μ', h, hq⟩
    exact ⟨n + 1, v, μ', ⟨i, len, hd, hl, Or.inr (Or.inr ⟨k, a, r, v1, μ1, hc, hs, h1, h⟩)⟩, hq⟩
theorem call_ev {k : Nat} {a : List Value} (h : a.length = naOf k) (h9 : a.all (fun v => v.category == 1) = true) : Call (d + 1) k a μ Q = Ev d k 0 (enL k a) [] μ Q := by
  apply propext
  constructor
  · rintro ⟨v, μ', ⟨-, -, n, h1⟩, hq⟩
    exact ⟨n, v, μ', h1, hq⟩
  · rintro ⟨n, v, μ', h1, hq⟩
    exact ⟨v, μ', ⟨h, h9, n, h1⟩, hq⟩
theorem ev_mono {Q' : Option Value → mM → Prop} (h : Ev d M pc L st μ Q) (hQ : ∀ v μ', Q v μ' → Q' v μ') : Ev d M pc L st μ Q' := by
  obtain ⟨n, v, μ', h1, h2⟩ := h
  exact ⟨n, v, μ', h1, hQ _ _ h2⟩
theorem call_mono {k : Nat} {a : List Value} {Q' : Option Value → mM → Prop} (h : Call d k a μ Q) (hQ : ∀ v μ', Q v μ' → Q' v μ') : Call d k a μ Q' := by
  obtain ⟨v, μ', h1, h2⟩ := h
  exact ⟨v, μ', h1, hQ _ _ h2⟩
theorem cat_le (l : List Value) : (l.map fun v => v.category).sum ≤ 2 * l.length := by
  induction l with
  | nil => exact Nat.le_refl _
  | cons a l ih =>
    have h : a.category ≤ 2 := by cases a <;> simp [Value.category]
    simp only [List.map_cons, List.sum_cons, List.length_cons]
    omega
theorem cat_4 {l : List Value} (h : l.length ≤ 4) : (l.map fun v => v.category).sum ≤ 8 := Nat.le_trans (cat_le l) (by omega)
-- constants, locals
theorem e_iconst {c : Int} (hd : decode (bOf M) pc = .ok (.iconst c, 1)) : Ev d M pc L st μ Q = Ev d M (pc + 1) L (.int (Int32.ofInt c) :: st) μ Q := ev_next hd rfl rfl rfl rfl
theorem e_bipush {c : Int} {x : Int32} (hd : decode (bOf M) pc = .ok (.bipush c, 2)) (hx : (Int8.ofInt c).toInt32 = x) : Ev d M pc L st μ Q = Ev d M (pc + 2) L (.int x :: st) μ Q := ev_next hd rfl rfl rfl (by rw [← hx]; rfl)
theorem e_sipush {c : Int} {x : Int32} (hd : decode (bOf M) pc = .ok (.sipush c, 3)) (hx : (Int16.ofInt c).toInt32 = x) : Ev d M pc L st μ Q = Ev d M (pc + 3) L (.int x :: st) μ Q := ev_next hd rfl rfl rfl (by rw [← hx]; rfl)
theorem e_lconst {n : Fin 2} (hd : decode (bOf M) pc = .ok (.lconst n, 1)) : Ev d M pc L st μ Q = Ev d M (pc + 1) L (.long (Int64.ofNat (n : Nat)) :: st) μ Q := ev_next hd rfl rfl rfl rfl
theorem e_ldc {j : Nat} {x : Int32} (hd : decode (bOf M) pc = .ok (.ldc j, 2)) (hx : mvKi (oOf M) j = some x) : Ev d M pc L st μ Q = Ev d M (pc + 2) L (.int x :: st) μ Q := ev_next hd rfl rfl rfl (by simp only [mNext, hx])
theorem e_ldc_w {j : Nat} {x : Int32} (hd : decode (bOf M) pc = .ok (.ldc_w j, 3)) (hx : mvKi (oOf M) j = some x) : Ev d M pc L st μ Q = Ev d M (pc + 3) L (.int x :: st) μ Q := ev_next hd rfl rfl rfl (by simp only [mNext, hx])
theorem e_ldc2_w {j : Nat} {x : Int64} (hd : decode (bOf M) pc = .ok (.ldc2_w j, 3)) (hx : mvKli (oOf M) j = some x) : Ev d M pc L st μ Q = Ev d M (pc + 3) L (.long x :: st) μ Q := ev_next hd rfl rfl rfl (by simp only [mNext, hx])
theorem e_iload_n {k : Fin 4} {x : Int32} (hd : decode (bOf M) pc = .ok (.iload_n k, 1)) (h : L[(k : Nat)]? = some (.int x)) : Ev d M pc L st μ Q = Ev d M (pc + 1) L (.int x :: st) μ Q := ev_next hd rfl rfl rfl (by simp only [mNext, h])
theorem e_iload {k : Nat} {x : Int32} (hd : decode (bOf M) pc = .ok (.iload k, 2)) (h : L[k]? = some (.int x)) : Ev d M pc L st μ Q = Ev d M (pc + 2) L (.int x :: st) μ Q := ev_next hd rfl rfl rfl (by simp only [mNext, h])
theorem e_aload_n {k : Fin 4} {x : Nat} (hd : decode (bOf M) pc = .ok (.aload_n k, 1)) (h : L[(k : Nat)]? = some (.ref x)) : Ev d M pc L st μ Q = Ev d M (pc + 1) L (.ref x :: st) μ Q := ev_next hd rfl rfl rfl (by simp only [mNext, h])
theorem e_aload {k : Nat} {x : Nat} (hd : decode (bOf M) pc = .ok (.aload k, 2)) (h : L[k]? = some (.ref x)) : Ev d M pc L st μ Q = Ev d M (pc + 2) L (.ref x :: st) μ Q := ev_next hd rfl rfl rfl (by simp only [mNext, h])
theorem e_lload_n {k : Fin 4} {x : Int64} (hd : decode (bOf M) pc = .ok (.lload_n k, 1)) (h : L[(k : Nat)]? = some (.long x)) : Ev d M pc L st μ Q = Ev d M (pc + 1) L (.long x :: st) μ Q := ev_next hd rfl rfl rfl (by simp only [mNext, h])
theorem e_lload {k : Nat} {x : Int64} (hd : decode (bOf M) pc = .ok (.lload k, 2)) (h : L[k]? = some (.long x)) : Ev d M pc L st μ Q = Ev d M (pc + 2) L (.long x :: st) μ Q := ev_next hd rfl rfl rfl (by simp only [mNext, h])
theorem e_istore_n {k : Fin 4} {x : Int32} (hd : decode (bOf M) pc = .ok (.istore_n k, 1)) (h : stOK L k = true) : Ev d M pc L (.int x :: st) μ Q = Ev d M (pc + 1) (L.set k (.int x)) st μ Q := ev_next hd rfl rfl rfl (by simp only [mNext, h, if_true])
theorem e_istore {k : Nat} {x : Int32} (hd : decode (bOf M) pc = .ok (.istore k, 2)) (h : stOK L k = true) : Ev d M pc L (.int x :: st) μ Q = Ev d M (pc + 2) (L.set k (.int x)) st μ Q := ev_next hd rfl rfl rfl (by simp only [mNext, h, if_true])
theorem e_astore_n {k : Fin 4} {x : Nat} (hd : decode (bOf M) pc = .ok (.astore_n k, 1)) (h : stOK L k = true) : Ev d M pc L (.ref x :: st) μ Q = Ev d M (pc + 1) (L.set k (.ref x)) st μ Q := ev_next hd rfl rfl rfl (by simp only [mNext, h, if_true])
theorem e_astore {k : Nat} {x : Nat} (hd : decode (bOf M) pc = .ok (.astore k, 2)) (h : stOK L k = true) : Ev d M pc L (.ref x :: st) μ Q = Ev d M (pc + 2) (L.set k (.ref x)) st μ Q := ev_next hd rfl rfl rfl (by simp only [mNext, h, if_true])
theorem e_lstore_n {k : Fin 4} {x : Int64} (hd : decode (bOf M) pc = .ok (.lstore_n k, 1)) (h : stOK L k = true ∧ (k : Nat) + 1 < L.length ∧ (L.getD (k + 1) .null).category = 1) : Ev d M pc L (.long x :: st) μ Q = Ev d M (pc + 1) ((L.set k (.long x)).set (k + 1) .null) st μ Q := ev_next hd rfl rfl rfl (by simp only [mNext]; exact if_pos h)
theorem e_lstore {k : Nat} {x : Int64} (hd : decode (bOf M) pc = .ok (.lstore k, 2)) (h : stOK L k = true ∧ (k : Nat) + 1 < L.length ∧ (L.getD (k + 1) .null).category = 1) : Ev d M pc L (.long x :: st) μ Q = Ev d M (pc + 2) ((L.set k (.long x)).set (k + 1) .null) st μ Q := ev_next hd rfl rfl rfl (by simp only [mNext]; exact if_pos h)
theorem e_iinc {k : Nat} {c : Int} {x : Int32} (hd : decode (bOf M) pc = .ok (.iinc k c, 3)) (h1 : L[k]? = some (.int x)) (h : stOK L k = true) : Ev d M pc L st μ Q = Ev d M (pc + 3) (L.set k (.int (x + Int32.ofInt c))) st μ Q := ev_next hd rfl rfl rfl (by simp only [mNext, h1, h, if_true])
-- numbers
theorem e_iadd {x y : Int32} (hd : decode (bOf M) pc = .ok (.iadd, 1)) : Ev d M pc L (.int y :: .int x :: st) μ Q = Ev d M (pc + 1) L (.int (x + y) :: st) μ Q := ev_next hd rfl rfl rfl rfl
theorem e_isub {x y : Int32} (hd : decode (bOf M) pc = .ok (.isub, 1)) : Ev d M pc L (.int y :: .int x :: st) μ Q = Ev d M (pc + 1) L (.int (x - y) :: st) μ Q := ev_next hd rfl rfl rfl rfl
theorem e_imul {x y : Int32} (hd : decode (bOf M) pc = .ok (.imul, 1)) : Ev d M pc L (.int y :: .int x :: st) μ Q = Ev d M (pc + 1) L (.int (x * y) :: st) μ Q := ev_next hd rfl rfl rfl rfl
theorem e_idiv {x y : Int32} (hd : decode (bOf M) pc = .ok (.idiv, 1)) (h : ¬ y = 0) : Ev d M pc L (.int y :: .int x :: st) μ Q = Ev d M (pc + 1) L (.int (x / y) :: st) μ Q := ev_next hd rfl rfl rfl (if_neg h)
theorem e_irem {x y : Int32} (hd : decode (bOf M) pc = .ok (.irem, 1)) (h : ¬ y = 0) : Ev d M pc L (.int y :: .int x :: st) μ Q = Ev d M (pc + 1) L (.int (x - x / y * y) :: st) μ Q := ev_next hd rfl rfl rfl (if_neg h)
theorem e_ineg {x : Int32} (hd : decode (bOf M) pc = .ok (.ineg, 1)) : Ev d M pc L (.int x :: st) μ Q = Ev d M (pc + 1) L (.int (-x) :: st) μ Q := ev_next hd rfl rfl rfl rfl
theorem e_iand {x y : Int32} (hd : decode (bOf M) pc = .ok (.iand, 1)) : Ev d M pc L (.int y :: .int x :: st) μ Q = Ev d M (pc + 1) L (.int (x &&& y) :: st) μ Q := ev_next hd rfl rfl rfl rfl
theorem e_ior {x y : Int32} (hd : decode (bOf M) pc = .ok (.ior, 1)) : Ev d M pc L (.int y :: .int x :: st) μ Q = Ev d M (pc + 1) L (.int (x ||| y) :: st) μ Q := ev_next hd rfl rfl rfl rfl
theorem e_ixor {x y : Int32} (hd : decode (bOf M) pc = .ok (.ixor, 1)) : Ev d M pc L (.int y :: .int x :: st) μ Q = Ev d M (pc + 1) L (.int (x ^^^ y) :: st) μ Q := ev_next hd rfl rfl rfl rfl
theorem e_ishl {x y : Int32} (hd : decode (bOf M) pc = .ok (.ishl, 1)) : Ev d M pc L (.int y :: .int x :: st) μ Q = Ev d M (pc + 1) L (.int (x <<< (y &&& 31)) :: st) μ Q := ev_next hd rfl rfl rfl rfl
theorem e_ishr {x y : Int32} (hd : decode (bOf M) pc = .ok (.ishr, 1)) : Ev d M pc L (.int y :: .int x :: st) μ Q = Ev d M (pc + 1) L (.int (x >>> (y &&& 31)) :: st) μ Q := ev_next hd rfl rfl rfl rfl
theorem e_iushr {x y : Int32} (hd : decode (bOf M) pc = .ok (.iushr, 1)) : Ev d M pc L (.int y :: .int x :: st) μ Q = Ev d M (pc + 1) L (.int (x.toUInt32 >>> (y.toUInt32 &&& Int32.toUInt32 31)).toInt32 :: st) μ Q := ev_next hd rfl rfl rfl rfl
theorem e_i2l {x : Int32} (hd : decode (bOf M) pc = .ok (.i2l, 1)) : Ev d M pc L (.int x :: st) μ Q = Ev d M (pc + 1) L (.long x.toInt64 :: st) μ Q := ev_next hd rfl rfl rfl rfl
theorem e_l2i {x : Int64} (hd : decode (bOf M) pc = .ok (.l2i, 1)) : Ev d M pc L (.long x :: st) μ Q = Ev d M (pc + 1) L (.int x.toInt32 :: st) μ Q := ev_next hd rfl rfl rfl rfl
theorem e_ladd {x y : Int64} (hd : decode (bOf M) pc = .ok (.ladd, 1)) : Ev d M pc L (.long y :: .long x :: st) μ Q = Ev d M (pc + 1) L (.long (x + y) :: st) μ Q := ev_next hd rfl rfl rfl rfl
theorem e_lmul {x y : Int64} (hd : decode (bOf M) pc = .ok (.lmul, 1)) : Ev d M pc L (.long y :: .long x :: st) μ Q = Ev d M (pc + 1) L (.long (x * y) :: st) μ Q := ev_next hd rfl rfl rfl rfl
theorem e_lcmp {x y : Int64} (hd : decode (bOf M) pc = .ok (.lcmp, 1)) : Ev d M pc L (.long y :: .long x :: st) μ Q = Ev d M (pc + 1) L (.int (lg_cmp x y) :: st) μ Q := ev_next hd rfl rfl rfl rfl
theorem e_dup_i {x : Int32} (hd : decode (bOf M) pc = .ok (.dup, 1)) : Ev d M pc L (.int x :: st) μ Q = Ev d M (pc + 1) L (.int x :: .int x :: st) μ Q := ev_next hd rfl rfl rfl rfl
theorem e_dup_a {x : Nat} (hd : decode (bOf M) pc = .ok (.dup, 1)) : Ev d M pc L (.ref x :: st) μ Q = Ev d M (pc + 1) L (.ref x :: .ref x :: st) μ Q := ev_next hd rfl rfl rfl rfl
theorem e_dup2 {x : Int32} {y : Nat} (hd : decode (bOf M) pc = .ok (.dup2, 1)) : Ev d M pc L (.int x :: .ref y :: st) μ Q = Ev d M (pc + 1) L (.int x :: .ref y :: .int x :: .ref y :: st) μ Q := ev_next hd rfl rfl rfl rfl
theorem e_pop {x : Int32} (hd : decode (bOf M) pc = .ok (.pop, 1)) : Ev d M pc L (.int x :: st) μ Q = Ev d M (pc + 1) L st μ Q := ev_next hd rfl rfl rfl rfl
-- branches
theorem e_goto {off : Int} {q : Nat} (hd : decode (bOf M) pc = .ok (.goto off, 3)) (ht : (pc : Int) + off = (q : Int)) : Ev d M pc L st μ Q = Ev d M q L st μ Q := ev_next hd rfl rfl rfl (by simp [mNext, tgt, ht])
theorem e_ifnull {off : Int} {x : Nat} (hd : decode (bOf M) pc = .ok (.ifnull off, 3)) : Ev d M pc L (.ref x :: st) μ Q = Ev d M (pc + 3) L st μ Q := ev_next hd rfl rfl rfl rfl
theorem e_ifnonnull {off : Int} {x q : Nat} (hd : decode (bOf M) pc = .ok (.ifnonnull off, 3)) (ht : (pc : Int) + off = (q : Int)) : Ev d M pc L (.ref x :: st) μ Q = Ev d M q L st μ Q := ev_next hd rfl rfl rfl (by simp [mNext, tgt, ht])
theorem e_icmp {cd : Jvm.ClassFile.Cond} {off : Int} {q : Nat} {x y : Int32} (hd : decode (bOf M) pc = .ok (.if_icmp cd off, 3)) (ht : (pc : Int) + off = (q : Int)) : Ev d M pc L (.int y :: .int x :: st) μ Q = if mCmp cd x y = true then Ev d M q L st μ Q else Ev d M (pc + 3) L st μ Q := by
  have h0 : 0 ≤ (pc : Int) + off := by omega
  by_cases h : mCmp cd x y = true
  · rw [if_pos h]
    exact ev_next hd rfl rfl rfl (by simp [mNext, tgt, ht, h])
  · rw [if_neg h]
    exact ev_next hd rfl rfl rfl (by simp [mNext, h, h0])
theorem e_ifc {cd : Jvm.ClassFile.Cond} {off : Int} {q : Nat} {x : Int32} (hd : decode (bOf M) pc = .ok (.ifCond cd off, 3)) (ht : (pc : Int) + off = (q : Int)) : Ev d M pc L (.int x :: st) μ Q = if mCmp cd x 0 = true then Ev d M q L st μ Q else Ev d M (pc + 3) L st μ Q := by
  have h0 : 0 ≤ (pc : Int) + off := by omega
  by_cases h : mCmp cd x 0 = true
  · rw [if_pos h]
    exact ev_next hd rfl rfl rfl (by simp [mNext, tgt, ht, h])
  · rw [if_neg h]
    exact ev_next hd rfl rfl rfl (by simp [mNext, h, h0])
theorem e_icmp_eq {off : Int} {q : Nat} {x y : Int32} (hd : decode (bOf M) pc = .ok (.if_icmp .eq off, 3)) (ht : (pc : Int) + off = (q : Int)) : Ev d M pc L (.int y :: .int x :: st) μ Q = if x = y then Ev d M q L st μ Q else Ev d M (pc + 3) L st μ Q := by rw [e_icmp hd ht]; simp [mCmp]
theorem e_icmp_ne {off : Int} {q : Nat} {x y : Int32} (hd : decode (bOf M) pc = .ok (.if_icmp .ne off, 3)) (ht : (pc : Int) + off = (q : Int)) : Ev d M pc L (.int y :: .int x :: st) μ Q = if x = y then Ev d M (pc + 3) L st μ Q else Ev d M q L st μ Q := by rw [e_icmp hd ht]; simp [mCmp]
theorem e_icmp_lt {off : Int} {q : Nat} {x y : Int32} (hd : decode (bOf M) pc = .ok (.if_icmp .lt off, 3)) (ht : (pc : Int) + off = (q : Int)) : Ev d M pc L (.int y :: .int x :: st) μ Q = if x < y then Ev d M q L st μ Q else Ev d M (pc + 3) L st μ Q := by rw [e_icmp hd ht]; simp [mCmp]
theorem e_icmp_ge {off : Int} {q : Nat} {x y : Int32} (hd : decode (bOf M) pc = .ok (.if_icmp .ge off, 3)) (ht : (pc : Int) + off = (q : Int)) : Ev d M pc L (.int y :: .int x :: st) μ Q = if x < y then Ev d M (pc + 3) L st μ Q else Ev d M q L st μ Q := by
  rw [e_icmp hd ht]
  by_cases h : x < y
  · rw [if_pos h, if_neg (by simp [mCmp]; exact h)]
  · rw [if_neg h, if_pos (by simp [mCmp]; exact Int32.not_lt.mp h)]
theorem e_icmp_gt {off : Int} {q : Nat} {x y : Int32} (hd : decode (bOf M) pc = .ok (.if_icmp .gt off, 3)) (ht : (pc : Int) + off = (q : Int)) : Ev d M pc L (.int y :: .int x :: st) μ Q = if y < x then Ev d M q L st μ Q else Ev d M (pc + 3) L st μ Q := by rw [e_icmp hd ht]; simp [mCmp]
theorem e_icmp_le {off : Int} {q : Nat} {x y : Int32} (hd : decode (bOf M) pc = .ok (.if_icmp .le off, 3)) (ht : (pc : Int) + off = (q : Int)) : Ev d M pc L (.int y :: .int x :: st) μ Q = if y < x then Ev d M (pc + 3) L st μ Q else Ev d M q L st μ Q := by
  rw [e_icmp hd ht]
  by_cases h : y < x
  · rw [if_pos h, if_neg (by simp [mCmp]; exact h)]
  · rw [if_neg h, if_pos (by simp [mCmp]; exact Int32.not_lt.mp h)]
theorem e_if_eq {off : Int} {q : Nat} {x : Int32} (hd : decode (bOf M) pc = .ok (.ifCond .eq off, 3)) (ht : (pc : Int) + off = (q : Int)) : Ev d M pc L (.int x :: st) μ Q = if x = iI 0 then Ev d M q L st μ Q else Ev d M (pc + 3) L st μ Q := by rw [e_ifc hd ht, iI0]; simp [mCmp]
theorem e_if_ne {off : Int} {q : Nat} {x : Int32} (hd : decode (bOf M) pc = .ok (.ifCond .ne off, 3)) (ht : (pc : Int) + off = (q : Int)) : Ev d M pc L (.int x :: st) μ Q = if x = iI 0 then Ev d M (pc + 3) L st μ Q else Ev d M q L st μ Q := by rw [e_ifc hd ht, iI0]; simp [mCmp]
theorem e_if_lt {off : Int} {q : Nat} {x : Int32} (hd : decode (bOf M) pc = .ok (.ifCond .lt off, 3)) (ht : (pc : Int) + off = (q : Int)) : Ev d M pc L (.int x :: st) μ Q = if x < iI 0 then Ev d M q L st μ Q else Ev d M (pc + 3) L st μ Q := by rw [e_ifc hd ht, iI0]; simp [mCmp]
theorem e_if_ge {off : Int} {q : Nat} {x : Int32} (hd : decode (bOf M) pc = .ok (.ifCond .ge off, 3)) (ht : (pc : Int) + off = (q : Int)) : Ev d M pc L (.int x :: st) μ Q = if x < iI 0 then Ev d M (pc + 3) L st μ Q else Ev d M q L st μ Q := by
  rw [e_ifc hd ht, iI0]
  by_cases h : x < 0
  · rw [if_pos h, if_neg (by simp [mCmp]; exact h)]
  · rw [if_neg h, if_pos (by simp [mCmp]; exact Int32.not_lt.mp h)]
theorem e_if_gt {off : Int} {q : Nat} {x : Int32} (hd : decode (bOf M) pc = .ok (.ifCond .gt off, 3)) (ht : (pc : Int) + off = (q : Int)) : Ev d M pc L (.int x :: st) μ Q = if iI 0 < x then Ev d M q L st μ Q else Ev d M (pc + 3) L st μ Q := by rw [e_ifc hd ht, iI0]; simp [mCmp]
theorem e_if_le {off : Int} {q : Nat} {x : Int32} (hd : decode (bOf M) pc = .ok (.ifCond .le off, 3)) (ht : (pc : Int) + off = (q : Int)) : Ev d M pc L (.int x :: st) μ Q = if iI 0 < x then Ev d M (pc + 3) L st μ Q else Ev d M q L st μ Q := by
  rw [e_ifc hd ht, iI0]
  by_cases h : 0 < x
  · rw [if_pos h, if_neg (by simp [mCmp]; exact h)]
  · rw [if_neg h, if_pos (by simp [mCmp]; exact Int32.not_lt.mp h)]
-- memory
theorem e_getf {j ci k a : Nat} (hd : decode (bOf M) pc = .ok (.getfield j, 3)) (hf : mvFl (oOf M) j = some (ci, k)) (hn : k < nfOf ci) (hk : kd t a = ci) : Ev d M pc L (.ref a :: st) (t, V, A, P) Q = Ev d M (pc + 3) L (V a k :: st) (t, V, A, P) Q := ev_next hd rfl rfl rfl (by simp [mNext, hf, hn, hk])
theorem e_putf {j ci k a : Nat} {v : Value} (hd : decode (bOf M) pc = .ok (.putfield j, 3)) (hf : mvFl (oOf M) j = some (ci, k)) (hn : k < nfOf ci) (hm : mayPut M ci k v = true) (hk : kd t a = ci) : Ev d M pc L (v :: .ref a :: st) (t, V, A, P) Q = Ev d M (pc + 3) L st (t, up1 V a (up1 (V a) k v), A, P) Q := ev_next hd rfl rfl rfl (by simp [mNext, hf, hn, hk, hm])
theorem e_gets {j a : Nat} (hd : decode (bOf M) pc = .ok (.getstatic j, 3)) (hf : mvSl (oOf M) j = some a) : Ev d M pc L st μ Q = Ev d M (pc + 3) L (.ref a :: st) μ Q := ev_next hd rfl rfl rfl (by simp [mNext, hf])
theorem e_iald {a : Nat} {i : Int32} (hd : decode (bOf M) pc = .ok (.iaload, 1)) (hk : kd t a = 6) (hi : inB i (ln t a) = true) : Ev d M pc L (.int i :: .ref a :: st) (t, V, A, P) Q = Ev d M (pc + 1) L (.int (A a i.toNatClampNeg) :: st) (t, V, A, P) Q := ev_next hd rfl rfl rfl (by simp [mNext, hk, hi])
theorem e_iald_ro {a : Nat} {i : Int32} (hd : decode (bOf M) pc = .ok (.iaload, 1)) (hk : kd t a = 10) (hi : inB i (ln t a) = true) : Ev d M pc L (.int i :: .ref a :: st) (t, V, A, P) Q = Ev d M (pc + 1) L (.int (A a i.toNatClampNeg) :: st) (t, V, A, P) Q := ev_next hd rfl rfl rfl (by simp [mNext, hk, hi])
theorem e_bald {a : Nat} {i : Int32} (hd : decode (bOf M) pc = .ok (.baload, 1)) (hk : kd t a = 7) (hi : inB i (ln t a) = true) : Ev d M pc L (.int i :: .ref a :: st) (t, V, A, P) Q = Ev d M (pc + 1) L (.int (A a i.toNatClampNeg) :: st) (t, V, A, P) Q := ev_next hd rfl rfl rfl (by simp [mNext, hk, hi])
theorem e_iast {a : Nat} {i x : Int32} (hd : decode (bOf M) pc = .ok (.iastore, 1)) (hk : kd t a = 6) (hi : inB i (ln t a) = true) : Ev d M pc L (.int x :: .int i :: .ref a :: st) (t, V, A, P) Q = Ev d M (pc + 1) L st (t, V, up1 A a (upd (A a) i.toNatClampNeg x), P) Q := ev_next hd rfl rfl rfl (by simp [mNext, hk, hi])
theorem e_bast {a : Nat} {i x : Int32} (hd : decode (bOf M) pc = .ok (.bastore, 1)) (hk : kd t a = 7) (hi : inB i (ln t a) = true) (hx : isB x) : Ev d M pc L (.int x :: .int i :: .ref a :: st) (t, V, A, P) Q = Ev d M (pc + 1) L st (t, V, up1 A a (upd (A a) i.toNatClampNeg x), P) Q := ev_next hd rfl rfl rfl (by simp only [mNext]; exact if_pos ⟨hk, hi, hx⟩)
theorem e_aald {a : Nat} {i : Int32} (c : Nat) (hc : c = 8 ∨ c = 9) (hd : decode (bOf M) pc = .ok (.aaload, 1)) (hk : kd t a = c) (hi : inB i (ln t a) = true) : Ev d M pc L (.int i :: .ref a :: st) (t, V, A, P) Q = Ev d M (pc + 1) L (va_rf (P a i.toNatClampNeg) :: st) (t, V, A, P) Q := ev_next hd rfl rfl rfl (by rcases hc with rfl | rfl <;> simp [mNext, hk, hi])
theorem e_aast8 {a v : Nat} {i : Int32} (hd : decode (bOf M) pc = .ok (.aastore, 1)) (hk : kd t a = 8) (hv : kd t v = 2) (hi : inB i (ln t a) = true) : Ev d M pc L (.ref v :: .int i :: .ref a :: st) (t, V, A, P) Q = Ev d M (pc + 1) L st (t, V, A, up1 P a (up1 (P a) i.toNatClampNeg (some v))) Q := ev_next hd rfl rfl rfl (by simp [mNext, hk, hi, hv])
theorem e_aast9 {a v : Nat} {i : Int32} (hd : decode (bOf M) pc = .ok (.aastore, 1)) (hk : kd t a = 9) (hv : kd t v = 3) (hi : inB i (ln t a) = true) : Ev d M pc L (.ref v :: .int i :: .ref a :: st) (t, V, A, P) Q = Ev d M (pc + 1) L st (t, V, A, up1 P a (up1 (P a) i.toNatClampNeg (some v))) Q := ev_next hd rfl rfl rfl (by simp [mNext, hk, hi, hv])
theorem e_alen {a : Nat} (hd : decode (bOf M) pc = .ok (.arraylength, 1)) (hk : kd t a = 10) : Ev d M pc L (.ref a :: st) (t, V, A, P) Q = Ev d M (pc + 1) L (.int (Int32.ofNat (ln t a)) :: st) (t, V, A, P) Q := ev_next hd rfl rfl rfl (by simp [mNext, hk])
-- making
variable {N S : Nat} {K : Nat → Nat × Nat}
theorem e_newi {c : Int} (n : Nat) (hd : decode (bOf M) pc = .ok (.newarray .int, 2)) (h0 : ¬ (Int32.ofInt c < 0 ∨ 100000 ≤ (Int32.ofInt c).toNatClampNeg)) (hn : (Int32.ofInt c).toNatClampNeg = n) : Ev d M pc L (.int (Int32.ofInt c) :: st) ((N, S, K), V, A, P) Q = Ev d M (pc + 2) L (.ref N :: st) ((N + 1, S + n, up1 K N (6, n)), V, up1 A N (fun _ => 0), P) Q := ev_next hd rfl rfl rfl (by subst hn; simp only [mNext, h0, if_false])
theorem e_newz {c : Int} (n : Nat) (hd : decode (bOf M) pc = .ok (.newarray .boolean, 2)) (h0 : ¬ (Int32.ofInt c < 0 ∨ 100000 ≤ (Int32.ofInt c).toNatClampNeg)) (hn : (Int32.ofInt c).toNatClampNeg = n) : Ev d M pc L (.int (Int32.ofInt c) :: st) ((N, S, K), V, A, P) Q = Ev d M (pc + 2) L (.ref N :: st) ((N + 1, S + n, up1 K N (7, n)), V, up1 A N (fun _ => 0), P) Q := ev_next hd rfl rfl rfl (by subst hn; simp only [mNext, h0, if_false])
theorem e_newq {c : Int} {j ci : Nat} (n : Nat) (hd : decode (bOf M) pc = .ok (.anewarray j, 3)) (hj : mvNl (oOf M) j = some ci) (h0 : ¬ (Int32.ofInt c < 0 ∨ 100000 ≤ (Int32.ofInt c).toNatClampNeg ∨ ¬ (ci = 2 ∨ ci = 3))) (hn : (Int32.ofInt c).toNatClampNeg = n) : Ev d M pc L (.int (Int32.ofInt c) :: st) ((N, S, K), V, A, P) Q = Ev d M (pc + 3) L (.ref N :: st) ((N + 1, S + n, up1 K N (ci + 6, n)), V, A, up1 P N (fun _ => none)) Q := ev_next hd rfl rfl rfl (by subst hn; simp only [mNext, hj, h0, if_false])
theorem e_new {j ci : Nat} (n : Nat) (df : List Value) (hd : decode (bOf M) pc = .ok (.new j, 3)) (hj : mvNl (oOf M) j = some ci) (hci : ci < 6) (hn : nfOf ci = n) (hdf : dfOf ci = df) : Ev d M pc L st ((N, S, K), V, A, P) Q = Ev d M (pc + 3) L (.ref N :: st) ((N + 1, S + n, up1 K N (ci, n)), up1 V N (rw' df), A, P) Q := ev_next hd rfl rfl rfl (by subst hn; subst hdf; simp only [mNext, hj, hci, if_true])
theorem e_obj {j a : Nat} (hd : decode (bOf M) pc = .ok (.invokespecial j, 3)) (hj : mvObl (oOf M) j = true) (hc : mvCl (oOf M) j = none) (hr : st.length ≤ 4) : Ev d M pc L (.ref a :: st) μ Q = Ev d M (pc + 3) L st μ Q := ev_next hd rfl rfl (by simp only [mCall, hc]) (by simp only [mNext, hj, if_true, if_pos (cat_4 hr)])
-- switch
theorem e_sw {x : Int32} {df lo hi : Int} {offs : Array Int} (hd : decode (bOf M) pc = .ok (.tableswitch df lo hi offs, len)) {pc1 : Nat} (h : mNext M (.tableswitch df lo hi offs) pc L (.int x :: st) μ = some (pc1, L, st, μ)) : Ev d M pc L (.int x :: st) μ Q = Ev d M pc1 L st μ Q := ev_next hd trivial rfl rfl h
theorem iI_toInt {z : Int} (h1 : -2147483648 ≤ z) (h2 : z < 2147483648) : (iI z).toInt = z := Int32.toInt_ofInt_of_le (by omega) (by omega)
theorem iI_self (x : Int32) : iI x.toInt = x := Int32.ofInt_toInt x
theorem sw_in {x : Int32} {df hi off j : Int} {offs : Array Int} {q : Nat} (hx : x = iI j) (h0 : 0 ≤ j) (h1 : j ≤ hi) (h2 : hi < 2147483648) (ho : offs[j.toNat]? = some off) (ht : (pc : Int) + off = (q : Int)) : mNext M (.tableswitch df 0 hi offs) pc L (.int x :: st) μ = some (q, L, st, μ) := by
  have e : x.toInt = j := by rw [hx]; exact iI_toInt (by omega) (by omega)
  have h : ¬ (x.toInt < 0 ∨ hi < x.toInt) := by omega
  have h3 : 0 ≤ (q : Int) := by omega
  rw [e] at h
  simp only [mNext, e, if_neg h, Int.sub_zero, ho, tgt, ht, if_pos h3, Int.toNat_natCast]
theorem sw_out {x : Int32} {df hi : Int} {offs : Array Int} {q : Nat} (h : x.toInt < 0 ∨ hi < x.toInt) (ht : (pc : Int) + df = (q : Int)) : mNext M (.tableswitch df 0 hi offs) pc L (.int x :: st) μ = some (q, L, st, μ) := by
  have h3 : 0 ≤ (q : Int) := by omega
  simp only [mNext, if_pos h, tgt, ht, if_pos h3, Int.toNat_natCast]
theorem ne_toInt {x : Int32} {j : Int} (h : ¬ x = iI j) : ¬ x.toInt = j := fun e => h (by rw [← e]; exact (iI_self x).symm)
-- calls and returns
theorem e_iret {x : Int32} (hd : decode (bOf M) pc = .ok (.ireturn, 1)) (hr : rtOf M = some .int) : Ev d M pc L [.int x] μ Q = Q (some (.int x)) μ := ev_ret hd rfl (by simp [mRet, hr]) rfl rfl
theorem e_zret {x : Int32} (hd : decode (bOf M) pc = .ok (.ireturn, 1)) (hr : rtOf M = some .boolean) (hx : isB x) : Ev d M pc L [.int x] μ Q = Q (some (.int x)) μ := ev_ret hd rfl (by simp only [mRet, hr]; exact if_pos hx) rfl rfl
theorem e_ret (hd : decode (bOf M) pc = .ok (.return_, 1)) (hr : rtOf M = none) : Ev d M pc L [] μ Q = Q none μ := ev_ret hd rfl (by simp [mRet, hr]) rfl rfl
theorem e_callS {j k : Nat} {a r : List Value} (hd : decode (bOf M) pc = .ok (.invokestatic j, 3)) (hj : mvCl (oOf M) j = some k) (hs : stOf k = true) (hk1 : k < 131) (hn : naOf k = a.length) (hr : r.length ≤ 4) : Ev d M pc L (a.reverse ++ r) μ Q = Call d k a μ (fun v μ1 => Ev d M (pc + 3) L (v.toList ++ r) μ1 Q) := ev_call hd rfl rfl (by simp [mCall, hj, hs, hn, hk1, List.take_left', List.drop_left']) (cat_4 hr) (by simp only [mNext, hj]; rw [if_neg (by intro h; cases h; omega)])
theorem e_max {j : Nat} {x y : Int32} (hd : decode (bOf M) pc = .ok (.invokestatic j, 3)) (hj : mvCl (oOf M) j = some 131) (hr : st.length ≤ 4) : Ev d M pc L (.int y :: .int x :: st) μ Q = Ev d M (pc + 3) L (.int (if x < y then y else x) :: st) μ Q := ev_next hd rfl rfl (by simp [mCall, hj]) (by simp only [mNext, hj, if_true, if_pos (cat_4 hr)])
theorem e_callV {j k c b : Nat} {a r : List Value} (hd : decode (bOf M) pc = .ok (.invokevirtual j, 3)) (hj : mvCl (oOf M) j = some k) (hs : stOf k = false) (hi : isInit k = false) (hk1 : k < 131) (hn : naOf k = a.length + 1) (hr : r.length ≤ 4) (hc : oOf k = c) (hk : kd t b = c) : Ev d M pc L (a.reverse ++ .ref b :: r) (t, V, A, P) Q = Call d k (.ref b :: a) (t, V, A, P) (fun v μ1 => Ev d M (pc + 3) L (v.toList ++ r) μ1 Q) := by
  have e : a.reverse ++ .ref b :: r = (Value.ref b :: a).reverse ++ r := by simp
  rw [e]
  refine ev_call hd rfl rfl ?_ (cat_4 hr) rfl
  have h1 : ((Value.ref b :: a).reverse ++ r).take (a.length + 1) = (Value.ref b :: a).reverse := List.take_left' (by simp)
  have h2 : ((Value.ref b :: a).reverse ++ r).drop (a.length + 1) = r := List.drop_left' (by simp)
  simp only [mCall, hj, hs, hi, hk1, hn, h1, h2, List.reverse_reverse]
  simp [rcv, hk, hc]
theorem e_callI {j k b : Nat} {a r : List Value} (hd : decode (bOf M) pc = .ok (.invokespecial j, 3)) (hj : mvCl (oOf M) j = some k) (ho : mvObl (oOf M) j = false) (hs : stOf k = false) (hi : isInit k = true) (hk1 : k < 131) (hn : naOf k = a.length + 1) (hr : r.length ≤ 4) : Ev d M pc L (a.reverse ++ .ref b :: r) μ Q = Call d k (.ref b :: a) μ (fun v μ1 => Ev d M (pc + 3) L (v.toList ++ r) μ1 Q) := by
  have e : a.reverse ++ .ref b :: r = (Value.ref b :: a).reverse ++ r := by simp
  rw [e]
  refine ev_call hd rfl rfl ?_ (cat_4 hr) (by simp [mNext, ho])
  have h1 : ((Value.ref b :: a).reverse ++ r).take (a.length + 1) = (Value.ref b :: a).reverse := List.take_left' (by simp)
  have h2 : ((Value.ref b :: a).reverse ++ r).drop (a.length + 1) = r := List.drop_left' (by simp)
  simp only [mCall, hj, hs, hi, hk1, hn, h1, h2, List.reverse_reverse]
  simp [rcI]
end EV
end
section
def asA : List Int := [11, 13, 14, 19, 21, 22, 25, 26, 28, 35, 37, 38, 41, 42, 44, 49, 50, 52, 23, 27, 29, 39, 43, 45, 46, 51, 53, 54, 57, 58, 56, 15, 30, 60]
def asM : List Int := [-9, -9, -9, 33, -9, 29, 28, 30, -9, 27, 26, 0, 25, 1, 2, 31, -9, 24, 23, 3, 22, 4, 5, 18, 21, 6, 7, 19, 8, 20, 32, -9, -9, 32, 20, 9, 19, 10, 11, 21, 18, 12, 13, 22, 14, 23, 24, -9, 31, 15, 16, 25, 17, 26, 27, -9, 30, 28, 29, -9, 33, -9, -9, -9]
/-- the memory at the law's start -/
def mu0 (L : Nat) (xs : Nat → Int32) : mM := ((3, 0, fun i => if i = 0 then (10, 34) else if i = 1 then (10, 64) else if i = 2 then (10, L) else (99, 0)), (fun _ _ => .null), (fun i j => if i = 0 then iI (asA.getD j 0) else if i = 1 then iI (asM.getD j 0) else xs j), (fun _ _ => none))
end
section
/-- the law, on the small machine -/
theorem law_pure (L : Nat) (xs : Nat → Int32) (hL : L ≤ 2560) : Ev 40 132 0 [.ref 2, .null, .null, .null] [] (mu0 L xs) (fun v μ' => v = some (.int 1) ∧ μ'.1.1 ≤ 600000 ∧ μ'.1.2.1 ≤ 7302249) := by
  sorry
end
section
def npv : Nat := 38
def yOf (k : Nat) : MethodName := mvY.getD k ⟨"", "", ""⟩
def ownN (o : Nat) : String := mvOwn.getD o ""
def gT : List Cond := lw_tbl.filter goodWord
theorem gT_in {w : Cond} (h : w ∈ lw_tbl) (g : goodWord w = true) : w ∈ gT := List.mem_filter.mpr ⟨h, g⟩
theorem gT_goodIn {ws : List Cond} (h : ∀ w ∈ ws, w ∈ gT) : GoodIn gT ws := fun w hw => ⟨h w hw, good_of_word (List.mem_filter.mp (h w hw)).2⟩
def wsK (k : Nat) : List Cond := .code (yOf k) (bOf k) (mlOf k) (rtOf k) :: gT
def chk (w : Cond) (i : Nat) : Bool := decide (lw_tbl[i]? = some w) && goodWord w
theorem chk_in {w : Cond} {i : Nat} (h : chk w i = true) : w ∈ gT := by
  simp only [chk, Bool.and_eq_true, decide_eq_true_eq] at h
  exact gT_in (List.mem_of_getElem? h.1) h.2
/-- what the tables say of method k -/
def mwOK (k : Nat) : Prop := (Cond.code (yOf k) (bOf k) (mlOf k) (rtOf k)) ∈ gT ∧ (if stOf k then Cond.static (yOf k) else Cond.instanceMethod (yOf k)) ∈ gT ∧ (isInit k = false → stOf k = false → (Cond.selects (yOf k).cls (yOf k) (yOf k)) ∈ gT) ∧ (Cond.initialized (yOf k).cls) ∈ gT ∧ plainName (yOf k).cls = true ∧ ((yOf k).cls ≠ "java/lang/invoke/MethodHandle" ∧ (yOf k).cls ≠ "java/lang/invoke/VarHandle" ∧ (parseMethodDescriptor (yOf k).desc).map (fun d => d.parameters.length) = some (if stOf k then naOf k else naOf k - 1)) ∧ ((yOf k).cls = ownN (oOf k) ∧ (isInit k = true → (yOf k).name = "<init>") ∧ mlOf k ≤ 40 ∧ naOf k ≤ mlOf k ∧ (stOf k = false → 1 ≤ naOf k) ∧ (isInit k = true → rtOf k = none))
theorem mwOK_mk {k n : Nat} {y : MethodName} (hy : yOf k = y) (h1 : (Cond.code y (bOf k) (mlOf k) (rtOf k)) ∈ gT) (h2 : (if stOf k then Cond.static y else Cond.instanceMethod y) ∈ gT) (h3 : isInit k = false → stOf k = false → (Cond.selects y.cls y y) ∈ gT) (h4 : (Cond.initialized y.cls) ∈ gT) (h5 : plainName y.cls = true) (h6 : y.cls ≠ "java/lang/invoke/MethodHandle" ∧ y.cls ≠ "java/lang/invoke/VarHandle") (h7 : (parseMethodDescriptor y.desc).map (fun d => d.parameters.length) = some n) (h8 : (if stOf k then naOf k else naOf k - 1) = n) (h9 : y.cls = ownN (oOf k) ∧ (isInit k = true → y.name = "<init>") ∧ mlOf k ≤ 40 ∧ naOf k ≤ mlOf k ∧ (stOf k = false → 1 ≤ naOf k) ∧ (isInit k = true → rtOf k = none)) : mwOK k := by
  subst hy
  exact ⟨h1, h2, h3, h4, h5, ⟨h6.1, h6.2, by rw [h7, h8]⟩, h9⟩
theorem pmd_0 : (parseMethodDescriptor "(I)Z").map (fun d => d.parameters.length) = some 1 := by decide +kernel
theorem pmd_1 : (parseMethodDescriptor "(I)I").map (fun d => d.parameters.length) = some 1 := by decide +kernel
theorem pmd_2 : (parseMethodDescriptor "(II)I").map (fun d => d.parameters.length) = some 2 := by decide +kernel
theorem pmd_3 : (parseMethodDescriptor "(II)Z").map (fun d => d.parameters.length) = some 2 := by decide +kernel
theorem pmd_4 : (parseMethodDescriptor "()V").map (fun d => d.parameters.length) = some 0 := by decide +kernel
theorem pmd_5 : (parseMethodDescriptor "(LEvenWords$Wire;I)V").map (fun d => d.parameters.length) = some 2 := by decide +kernel
theorem pmd_6 : (parseMethodDescriptor "(LEvenWords$Orders;II)V").map (fun d => d.parameters.length) = some 3 := by decide +kernel
theorem pmd_7 : (parseMethodDescriptor "(I)V").map (fun d => d.parameters.length) = some 1 := by decide +kernel
theorem pmd_8 : (parseMethodDescriptor "(LEvenWords$Wire;II)V").map (fun d => d.parameters.length) = some 3 := by decide +kernel
theorem pmd_9 : (parseMethodDescriptor "()I").map (fun d => d.parameters.length) = some 0 := by decide +kernel
theorem pmd_10 : (parseMethodDescriptor "(LEvenWords$Walk;)V").map (fun d => d.parameters.length) = some 1 := by decide +kernel
theorem pmd_11 : (parseMethodDescriptor "(LEvenWords$Wire;LEvenWords$Wire;)V").map (fun d => d.parameters.length) = some 2 := by decide +kernel
theorem pmd_12 : (parseMethodDescriptor "(IIII)I").map (fun d => d.parameters.length) = some 4 := by decide +kernel
theorem pmd_13 : (parseMethodDescriptor "(III)I").map (fun d => d.parameters.length) = some 3 := by decide +kernel
theorem pmd_14 : (parseMethodDescriptor "(III)Z").map (fun d => d.parameters.length) = some 3 := by decide +kernel
theorem pmd_15 : (parseMethodDescriptor "(Z)I").map (fun d => d.parameters.length) = some 1 := by decide +kernel
theorem pmd_16 : (parseMethodDescriptor "(III)V").map (fun d => d.parameters.length) = some 3 := by decide +kernel
theorem pmd_17 : (parseMethodDescriptor "(II)V").map (fun d => d.parameters.length) = some 2 := by decide +kernel
theorem pmd_18 : (parseMethodDescriptor "([I)Z").map (fun d => d.parameters.length) = some 1 := by decide +kernel
theorem mw_0 : mwOK 0 := by
  refine mwOK_mk (y := (⟨"EvenWords$Forms", "isKind", "(I)Z"⟩ : MethodName)) (n := 1) rfl ?_ ?_ ?_ ?_ (by decide +kernel) (by decide +kernel) pmd_0 rfl (by decide +kernel)
  · exact chk_in (i := 358) (by decide +kernel)
  · exact chk_in (i := 357) (by decide +kernel)
  · exact fun h1 h2 => absurd h2 (by decide +kernel)
  · exact chk_in (i := 45) (by decide +kernel)
theorem mw_1 : mwOK 1 := by
  refine mwOK_mk (y := (⟨"EvenWords$Forms", "formA", "(I)I"⟩ : MethodName)) (n := 1) rfl ?_ ?_ ?_ ?_ (by decide +kernel) (by decide +kernel) pmd_1 rfl (by decide +kernel)
  · exact chk_in (i := 288) (by decide +kernel)
  · exact chk_in (i := 287) (by decide +kernel)
  · exact fun h1 h2 => absurd h2 (by decide +kernel)
  · exact chk_in (i := 45) (by decide +kernel)
theorem mw_2 : mwOK 2 := by
  refine mwOK_mk (y := (⟨"EvenWords$Forms", "formB", "(I)I"⟩ : MethodName)) (n := 1) rfl ?_ ?_ ?_ ?_ (by decide +kernel) (by decide +kernel) pmd_1 rfl (by decide +kernel)
  · exact chk_in (i := 285) (by decide +kernel)
  · exact chk_in (i := 284) (by decide +kernel)
  · exact fun h1 h2 => absurd h2 (by decide +kernel)
  · exact chk_in (i := 45) (by decide +kernel)
theorem mw_3 : mwOK 3 := by
  refine mwOK_mk (y := (⟨"EvenWords$Forms", "formDue", "(II)I"⟩ : MethodName)) (n := 2) rfl ?_ ?_ ?_ ?_ (by decide +kernel) (by decide +kernel) pmd_2 rfl (by decide +kernel)
  · exact chk_in (i := 282) (by decide +kernel)
  · exact chk_in (i := 281) (by decide +kernel)
  · exact fun h1 h2 => absurd h2 (by decide +kernel)
  · exact chk_in (i := 45) (by decide +kernel)
theorem mw_4 : mwOK 4 := by
  refine mwOK_mk (y := (⟨"EvenWords$Forms", "meaning", "(I)I"⟩ : MethodName)) (n := 1) rfl ?_ ?_ ?_ ?_ (by decide +kernel) (by decide +kernel) pmd_1 rfl (by decide +kernel)
  · exact chk_in (i := 399) (by decide +kernel)
  · exact chk_in (i := 398) (by decide +kernel)
  · exact fun h1 h2 => absurd h2 (by decide +kernel)
  · exact chk_in (i := 45) (by decide +kernel)
theorem mw_5 : mwOK 5 := by
  refine mwOK_mk (y := (⟨"EvenWords$Forms", "isRight", "(II)Z"⟩ : MethodName)) (n := 2) rfl ?_ ?_ ?_ ?_ (by decide +kernel) (by decide +kernel) pmd_3 rfl (by decide +kernel)
  · exact chk_in (i := 410) (by decide +kernel)
  · exact chk_in (i := 409) (by decide +kernel)
  · exact fun h1 h2 => absurd h2 (by decide +kernel)
  · exact chk_in (i := 45) (by decide +kernel)
theorem mw_6 : mwOK 6 := by
  refine mwOK_mk (y := (⟨"EvenWords$Forms", "sumBehind", "(II)I"⟩ : MethodName)) (n := 2) rfl ?_ ?_ ?_ ?_ (by decide +kernel) (by decide +kernel) pmd_2 rfl (by decide +kernel)
  · exact chk_in (i := 293) (by decide +kernel)
  · exact chk_in (i := 292) (by decide +kernel)
  · exact fun h1 h2 => absurd h2 (by decide +kernel)
  · exact chk_in (i := 45) (by decide +kernel)
theorem mw_7 : mwOK 7 := by
  refine mwOK_mk (y := (⟨"EvenWords$Orders", "<init>", "()V"⟩ : MethodName)) (n := 0) rfl ?_ ?_ ?_ ?_ (by decide +kernel) (by decide +kernel) pmd_4 rfl (by decide +kernel)
  · exact chk_in (i := 165) (by decide +kernel)
  · exact chk_in (i := 164) (by decide +kernel)
  · exact fun h1 h2 => absurd h1 (by decide +kernel)
  · exact chk_in (i := 43) (by decide +kernel)
theorem mw_8 : mwOK 8 := by
  refine mwOK_mk (y := (⟨"EvenWords$Orders", "search", "(LEvenWords$Wire;I)V"⟩ : MethodName)) (n := 2) rfl ?_ ?_ ?_ ?_ (by decide +kernel) (by decide +kernel) pmd_5 rfl (by decide +kernel)
  · exact chk_in (i := 492) (by decide +kernel)
  · exact chk_in (i := 490) (by decide +kernel)
  · exact fun _ _ => chk_in (i := 491) (by decide +kernel)
  · exact chk_in (i := 43) (by decide +kernel)
theorem mw_9 : mwOK 9 := by
  refine mwOK_mk (y := (⟨"EvenWords$Orders", "walkAhead", "(LEvenWords$Wire;I)V"⟩ : MethodName)) (n := 2) rfl ?_ ?_ ?_ ?_ (by decide +kernel) (by decide +kernel) pmd_5 rfl (by decide +kernel)
  · exact chk_in (i := 496) (by decide +kernel)
  · exact chk_in (i := 495) (by decide +kernel)
  · exact fun _ _ => chk_in (i := 12) (by decide +kernel)
  · exact chk_in (i := 43) (by decide +kernel)
theorem mw_10 : mwOK 10 := by
  refine mwOK_mk (y := (⟨"EvenWords$Orders", "bestAt", "(I)I"⟩ : MethodName)) (n := 1) rfl ?_ ?_ ?_ ?_ (by decide +kernel) (by decide +kernel) pmd_1 rfl (by decide +kernel)
  · exact chk_in (i := 511) (by decide +kernel)
  · exact chk_in (i := 509) (by decide +kernel)
  · exact fun _ _ => chk_in (i := 510) (by decide +kernel)
  · exact chk_in (i := 43) (by decide +kernel)
theorem mw_11 : mwOK 11 := by
  refine mwOK_mk (y := (⟨"EvenWords$Orders", "arrange", "(LEvenWords$Orders;II)V"⟩ : MethodName)) (n := 3) rfl ?_ ?_ ?_ ?_ (by decide +kernel) (by decide +kernel) pmd_6 rfl (by decide +kernel)
  · exact chk_in (i := 501) (by decide +kernel)
  · exact chk_in (i := 500) (by decide +kernel)
  · exact fun h1 h2 => absurd h2 (by decide +kernel)
  · exact chk_in (i := 43) (by decide +kernel)
theorem mw_12 : mwOK 12 := by
  refine mwOK_mk (y := (⟨"EvenWords$Orders", "settle", "(I)V"⟩ : MethodName)) (n := 1) rfl ?_ ?_ ?_ ?_ (by decide +kernel) (by decide +kernel) pmd_7 rfl (by decide +kernel)
  · exact chk_in (i := 505) (by decide +kernel)
  · exact chk_in (i := 504) (by decide +kernel)
  · exact fun _ _ => chk_in (i := 13) (by decide +kernel)
  · exact chk_in (i := 43) (by decide +kernel)
theorem mw_13 : mwOK 13 := by
  refine mwOK_mk (y := (⟨"EvenWords$Reading", "<init>", "()V"⟩ : MethodName)) (n := 0) rfl ?_ ?_ ?_ ?_ (by decide +kernel) (by decide +kernel) pmd_4 rfl (by decide +kernel)
  · exact chk_in (i := 96) (by decide +kernel)
  · exact chk_in (i := 95) (by decide +kernel)
  · exact fun h1 h2 => absurd h1 (by decide +kernel)
  · exact chk_in (i := 41) (by decide +kernel)
theorem mw_14 : mwOK 14 := by
  refine mwOK_mk (y := (⟨"EvenWords$Reading", "load", "(LEvenWords$Wire;II)V"⟩ : MethodName)) (n := 3) rfl ?_ ?_ ?_ ?_ (by decide +kernel) (by decide +kernel) pmd_8 rfl (by decide +kernel)
  · exact chk_in (i := 390) (by decide +kernel)
  · exact chk_in (i := 388) (by decide +kernel)
  · exact fun _ _ => chk_in (i := 389) (by decide +kernel)
  · exact chk_in (i := 41) (by decide +kernel)
theorem mw_15 : mwOK 15 := by
  refine mwOK_mk (y := (⟨"EvenWords$Reading", "pieceAt", "(I)I"⟩ : MethodName)) (n := 1) rfl ?_ ?_ ?_ ?_ (by decide +kernel) (by decide +kernel) pmd_1 rfl (by decide +kernel)
  · exact chk_in (i := 396) (by decide +kernel)
  · exact chk_in (i := 394) (by decide +kernel)
  · exact fun _ _ => chk_in (i := 395) (by decide +kernel)
  · exact chk_in (i := 41) (by decide +kernel)
theorem mw_16 : mwOK 16 := by
  refine mwOK_mk (y := (⟨"EvenWords$Reading", "sumAhead", "(I)I"⟩ : MethodName)) (n := 1) rfl ?_ ?_ ?_ ?_ (by decide +kernel) (by decide +kernel) pmd_1 rfl (by decide +kernel)
  · exact chk_in (i := 405) (by decide +kernel)
  · exact chk_in (i := 403) (by decide +kernel)
  · exact fun _ _ => chk_in (i := 404) (by decide +kernel)
  · exact chk_in (i := 41) (by decide +kernel)
theorem mw_17 : mwOK 17 := by
  refine mwOK_mk (y := (⟨"EvenWords$Reading", "sumBehind", "(I)I"⟩ : MethodName)) (n := 1) rfl ?_ ?_ ?_ ?_ (by decide +kernel) (by decide +kernel) pmd_1 rfl (by decide +kernel)
  · exact chk_in (i := 442) (by decide +kernel)
  · exact chk_in (i := 440) (by decide +kernel)
  · exact fun _ _ => chk_in (i := 441) (by decide +kernel)
  · exact chk_in (i := 41) (by decide +kernel)
theorem mw_18 : mwOK 18 := by
  refine mwOK_mk (y := (⟨"EvenWords$Reading", "breachesAt", "(I)I"⟩ : MethodName)) (n := 1) rfl ?_ ?_ ?_ ?_ (by decide +kernel) (by decide +kernel) pmd_1 rfl (by decide +kernel)
  · exact chk_in (i := 416) (by decide +kernel)
  · exact chk_in (i := 414) (by decide +kernel)
  · exact fun _ _ => chk_in (i := 415) (by decide +kernel)
  · exact chk_in (i := 41) (by decide +kernel)
theorem mw_19 : mwOK 19 := by
  refine mwOK_mk (y := (⟨"EvenWords$Reading", "check", "()V"⟩ : MethodName)) (n := 0) rfl ?_ ?_ ?_ ?_ (by decide +kernel) (by decide +kernel) pmd_4 rfl (by decide +kernel)
  · exact chk_in (i := 455) (by decide +kernel)
  · exact chk_in (i := 453) (by decide +kernel)
  · exact fun _ _ => chk_in (i := 454) (by decide +kernel)
  · exact chk_in (i := 41) (by decide +kernel)
theorem mw_20 : mwOK 20 := by
  refine mwOK_mk (y := (⟨"EvenWords$Reading", "blame", "()V"⟩ : MethodName)) (n := 0) rfl ?_ ?_ ?_ ?_ (by decide +kernel) (by decide +kernel) pmd_4 rfl (by decide +kernel)
  · exact chk_in (i := 459) (by decide +kernel)
  · exact chk_in (i := 457) (by decide +kernel)
  · exact fun _ _ => chk_in (i := 458) (by decide +kernel)
  · exact chk_in (i := 41) (by decide +kernel)
theorem mw_21 : mwOK 21 := by
  refine mwOK_mk (y := (⟨"EvenWords$Reading", "isRightTurned", "(II)Z"⟩ : MethodName)) (n := 2) rfl ?_ ?_ ?_ ?_ (by decide +kernel) (by decide +kernel) pmd_3 rfl (by decide +kernel)
  · exact chk_in (i := 463) (by decide +kernel)
  · exact chk_in (i := 462) (by decide +kernel)
  · exact fun _ _ => chk_in (i := 11) (by decide +kernel)
  · exact chk_in (i := 41) (by decide +kernel)
theorem mw_22 : mwOK 22 := by
  refine mwOK_mk (y := (⟨"EvenWords$Reading", "late", "()I"⟩ : MethodName)) (n := 0) rfl ?_ ?_ ?_ ?_ (by decide +kernel) (by decide +kernel) pmd_9 rfl (by decide +kernel)
  · exact chk_in (i := 471) (by decide +kernel)
  · exact chk_in (i := 469) (by decide +kernel)
  · exact fun _ _ => chk_in (i := 470) (by decide +kernel)
  · exact chk_in (i := 41) (by decide +kernel)
theorem mw_23 : mwOK 23 := by
  refine mwOK_mk (y := (⟨"EvenWords$Walk", "<init>", "()V"⟩ : MethodName)) (n := 0) rfl ?_ ?_ ?_ ?_ (by decide +kernel) (by decide +kernel) pmd_4 rfl (by decide +kernel)
  · exact chk_in (i := 102) (by decide +kernel)
  · exact chk_in (i := 101) (by decide +kernel)
  · exact fun h1 h2 => absurd h1 (by decide +kernel)
  · exact chk_in (i := 42) (by decide +kernel)
theorem mw_24 : mwOK 24 := by
  refine mwOK_mk (y := (⟨"EvenWords$Walk", "start", "(I)V"⟩ : MethodName)) (n := 1) rfl ?_ ?_ ?_ ?_ (by decide +kernel) (by decide +kernel) pmd_7 rfl (by decide +kernel)
  · exact chk_in (i := 420) (by decide +kernel)
  · exact chk_in (i := 418) (by decide +kernel)
  · exact fun _ _ => chk_in (i := 419) (by decide +kernel)
  · exact chk_in (i := 42) (by decide +kernel)
theorem mw_25 : mwOK 25 := by
  refine mwOK_mk (y := (⟨"EvenWords$Walk", "become", "(LEvenWords$Walk;)V"⟩ : MethodName)) (n := 1) rfl ?_ ?_ ?_ ?_ (by decide +kernel) (by decide +kernel) pmd_10 rfl (by decide +kernel)
  · exact chk_in (i := 467) (by decide +kernel)
  · exact chk_in (i := 465) (by decide +kernel)
  · exact fun _ _ => chk_in (i := 466) (by decide +kernel)
  · exact chk_in (i := 42) (by decide +kernel)
theorem mw_26 : mwOK 26 := by
  refine mwOK_mk (y := (⟨"EvenWords$Walk", "step", "(I)V"⟩ : MethodName)) (n := 1) rfl ?_ ?_ ?_ ?_ (by decide +kernel) (by decide +kernel) pmd_7 rfl (by decide +kernel)
  · exact chk_in (i := 434) (by decide +kernel)
  · exact chk_in (i := 432) (by decide +kernel)
  · exact fun _ _ => chk_in (i := 433) (by decide +kernel)
  · exact chk_in (i := 42) (by decide +kernel)
theorem mw_27 : mwOK 27 := by
  refine mwOK_mk (y := (⟨"EvenWords$Walk", "take", "(I)I"⟩ : MethodName)) (n := 1) rfl ?_ ?_ ?_ ?_ (by decide +kernel) (by decide +kernel) pmd_1 rfl (by decide +kernel)
  · exact chk_in (i := 424) (by decide +kernel)
  · exact chk_in (i := 422) (by decide +kernel)
  · exact fun _ _ => chk_in (i := 423) (by decide +kernel)
  · exact chk_in (i := 42) (by decide +kernel)
theorem mw_28 : mwOK 28 := by
  refine mwOK_mk (y := (⟨"EvenWords$Walk", "formBreach", "(I)I"⟩ : MethodName)) (n := 1) rfl ?_ ?_ ?_ ?_ (by decide +kernel) (by decide +kernel) pmd_1 rfl (by decide +kernel)
  · exact chk_in (i := 428) (by decide +kernel)
  · exact chk_in (i := 427) (by decide +kernel)
  · exact fun _ _ => chk_in (i := 10) (by decide +kernel)
  · exact chk_in (i := 42) (by decide +kernel)
theorem mw_29 : mwOK 29 := by
  refine mwOK_mk (y := (⟨"EvenWords$Wire", "<init>", "()V"⟩ : MethodName)) (n := 0) rfl ?_ ?_ ?_ ?_ (by decide +kernel) (by decide +kernel) pmd_4 rfl (by decide +kernel)
  · exact chk_in (i := 60) (by decide +kernel)
  · exact chk_in (i := 59) (by decide +kernel)
  · exact fun h1 h2 => absurd h1 (by decide +kernel)
  · exact chk_in (i := 40) (by decide +kernel)
theorem mw_30 : mwOK 30 := by
  refine mwOK_mk (y := (⟨"EvenWords$Wire", "empty", "()V"⟩ : MethodName)) (n := 0) rfl ?_ ?_ ?_ ?_ (by decide +kernel) (by decide +kernel) pmd_4 rfl (by decide +kernel)
  · exact chk_in (i := 347) (by decide +kernel)
  · exact chk_in (i := 345) (by decide +kernel)
  · exact fun _ _ => chk_in (i := 346) (by decide +kernel)
  · exact chk_in (i := 40) (by decide +kernel)
theorem mw_31 : mwOK 31 := by
  refine mwOK_mk (y := (⟨"EvenWords$Wire", "carry", "(LEvenWords$Wire;LEvenWords$Wire;)V"⟩ : MethodName)) (n := 2) rfl ?_ ?_ ?_ ?_ (by decide +kernel) (by decide +kernel) pmd_11 rfl (by decide +kernel)
  · exact chk_in (i := 275) (by decide +kernel)
  · exact chk_in (i := 274) (by decide +kernel)
  · exact fun h1 h2 => absurd h2 (by decide +kernel)
  · exact chk_in (i := 40) (by decide +kernel)
theorem mw_32 : mwOK 32 := by
  refine mwOK_mk (y := (⟨"EvenWords$Wire", "send", "(I)I"⟩ : MethodName)) (n := 1) rfl ?_ ?_ ?_ ?_ (by decide +kernel) (by decide +kernel) pmd_1 rfl (by decide +kernel)
  · exact chk_in (i := 279) (by decide +kernel)
  · exact chk_in (i := 277) (by decide +kernel)
  · exact fun _ _ => chk_in (i := 278) (by decide +kernel)
  · exact chk_in (i := 40) (by decide +kernel)
theorem mw_33 : mwOK 33 := by
  refine mwOK_mk (y := (⟨"EvenWords$Wire", "noteMark", "(I)V"⟩ : MethodName)) (n := 1) rfl ?_ ?_ ?_ ?_ (by decide +kernel) (by decide +kernel) pmd_7 rfl (by decide +kernel)
  · exact chk_in (i := 303) (by decide +kernel)
  · exact chk_in (i := 302) (by decide +kernel)
  · exact fun _ _ => chk_in (i := 8) (by decide +kernel)
  · exact chk_in (i := 40) (by decide +kernel)
theorem mw_34 : mwOK 34 := by
  refine mwOK_mk (y := (⟨"EvenWords$Wire", "markSentLately", "(I)I"⟩ : MethodName)) (n := 1) rfl ?_ ?_ ?_ ?_ (by decide +kernel) (by decide +kernel) pmd_1 rfl (by decide +kernel)
  · exact chk_in (i := 376) (by decide +kernel)
  · exact chk_in (i := 374) (by decide +kernel)
  · exact fun _ _ => chk_in (i := 375) (by decide +kernel)
  · exact chk_in (i := 40) (by decide +kernel)
theorem mw_35 : mwOK 35 := by
  refine mwOK_mk (y := (⟨"EvenWords$Wire", "bits", "()I"⟩ : MethodName)) (n := 0) rfl ?_ ?_ ?_ ?_ (by decide +kernel) (by decide +kernel) pmd_9 rfl (by decide +kernel)
  · exact chk_in (i := 327) (by decide +kernel)
  · exact chk_in (i := 325) (by decide +kernel)
  · exact fun _ _ => chk_in (i := 326) (by decide +kernel)
  · exact chk_in (i := 40) (by decide +kernel)
theorem mw_36 : mwOK 36 := by
  refine mwOK_mk (y := (⟨"EvenWords$Wire", "hasBit", "(I)Z"⟩ : MethodName)) (n := 1) rfl ?_ ?_ ?_ ?_ (by decide +kernel) (by decide +kernel) pmd_0 rfl (by decide +kernel)
  · exact chk_in (i := 323) (by decide +kernel)
  · exact chk_in (i := 321) (by decide +kernel)
  · exact fun _ _ => chk_in (i := 322) (by decide +kernel)
  · exact chk_in (i := 40) (by decide +kernel)
theorem mw_37 : mwOK 37 := by
  refine mwOK_mk (y := (⟨"EvenWords$Wire", "bitAt", "(I)I"⟩ : MethodName)) (n := 1) rfl ?_ ?_ ?_ ?_ (by decide +kernel) (by decide +kernel) pmd_1 rfl (by decide +kernel)
  · exact chk_in (i := 339) (by decide +kernel)
  · exact chk_in (i := 337) (by decide +kernel)
  · exact fun _ _ => chk_in (i := 338) (by decide +kernel)
  · exact chk_in (i := 40) (by decide +kernel)
theorem mw_38 : mwOK 38 := by
  refine mwOK_mk (y := (⟨"EvenWords$Wire", "turn", "(I)V"⟩ : MethodName)) (n := 1) rfl ?_ ?_ ?_ ?_ (by decide +kernel) (by decide +kernel) pmd_7 rfl (by decide +kernel)
  · exact chk_in (i := 331) (by decide +kernel)
  · exact chk_in (i := 329) (by decide +kernel)
  · exact fun _ _ => chk_in (i := 330) (by decide +kernel)
  · exact chk_in (i := 40) (by decide +kernel)
theorem mw_39 : mwOK 39 := by
  refine mwOK_mk (y := (⟨"EvenWords$Wire", "placeOf", "(I)I"⟩ : MethodName)) (n := 1) rfl ?_ ?_ ?_ ?_ (by decide +kernel) (by decide +kernel) pmd_1 rfl (by decide +kernel)
  · exact chk_in (i := 335) (by decide +kernel)
  · exact chk_in (i := 334) (by decide +kernel)
  · exact fun h1 h2 => absurd h2 (by decide +kernel)
  · exact chk_in (i := 40) (by decide +kernel)
theorem mw_40 : mwOK 40 := by
  refine mwOK_mk (y := (⟨"EvenWords$Wire", "ones", "()I"⟩ : MethodName)) (n := 0) rfl ?_ ?_ ?_ ?_ (by decide +kernel) (by decide +kernel) pmd_9 rfl (by decide +kernel)
  · exact chk_in (i := 533) (by decide +kernel)
  · exact chk_in (i := 531) (by decide +kernel)
  · exact fun _ _ => chk_in (i := 532) (by decide +kernel)
  · exact chk_in (i := 40) (by decide +kernel)
theorem mw_41 : mwOK 41 := by
  refine mwOK_mk (y := (⟨"EvenWords$Wire", "turned", "()I"⟩ : MethodName)) (n := 0) rfl ?_ ?_ ?_ ?_ (by decide +kernel) (by decide +kernel) pmd_9 rfl (by decide +kernel)
  · exact chk_in (i := 538) (by decide +kernel)
  · exact chk_in (i := 536) (by decide +kernel)
  · exact fun _ _ => chk_in (i := 537) (by decide +kernel)
  · exact chk_in (i := 40) (by decide +kernel)
theorem mw_42 : mwOK 42 := by
  refine mwOK_mk (y := (⟨"EvenWords$Wire", "marksSent", "()I"⟩ : MethodName)) (n := 0) rfl ?_ ?_ ?_ ?_ (by decide +kernel) (by decide +kernel) pmd_9 rfl (by decide +kernel)
  · exact chk_in (i := 546) (by decide +kernel)
  · exact chk_in (i := 544) (by decide +kernel)
  · exact fun _ _ => chk_in (i := 545) (by decide +kernel)
  · exact chk_in (i := 40) (by decide +kernel)
theorem mw_43 : mwOK 43 := by
  refine mwOK_mk (y := (⟨"EvenWords", "<init>", "()V"⟩ : MethodName)) (n := 0) rfl ?_ ?_ ?_ ?_ (by decide +kernel) (by decide +kernel) pmd_4 rfl (by decide +kernel)
  · exact chk_in (i := 52) (by decide +kernel)
  · exact chk_in (i := 51) (by decide +kernel)
  · exact fun h1 h2 => absurd h1 (by decide +kernel)
  · exact chk_in (i := 39) (by decide +kernel)
theorem mw_44 : mwOK 44 := by
  refine mwOK_mk (y := (⟨"EvenWords", "type", "(I)I"⟩ : MethodName)) (n := 1) rfl ?_ ?_ ?_ ?_ (by decide +kernel) (by decide +kernel) pmd_1 rfl (by decide +kernel)
  · exact chk_in (i := 232) (by decide +kernel)
  · exact chk_in (i := 230) (by decide +kernel)
  · exact fun _ _ => chk_in (i := 231) (by decide +kernel)
  · exact chk_in (i := 39) (by decide +kernel)
theorem mw_45 : mwOK 45 := by
  refine mwOK_mk (y := (⟨"EvenWords", "clear", "()I"⟩ : MethodName)) (n := 0) rfl ?_ ?_ ?_ ?_ (by decide +kernel) (by decide +kernel) pmd_9 rfl (by decide +kernel)
  · exact chk_in (i := 236) (by decide +kernel)
  · exact chk_in (i := 234) (by decide +kernel)
  · exact fun _ _ => chk_in (i := 235) (by decide +kernel)
  · exact chk_in (i := 39) (by decide +kernel)
theorem mw_46 : mwOK 46 := by
  refine mwOK_mk (y := (⟨"EvenWords", "tells", "()I"⟩ : MethodName)) (n := 0) rfl ?_ ?_ ?_ ?_ (by decide +kernel) (by decide +kernel) pmd_9 rfl (by decide +kernel)
  · exact chk_in (i := 240) (by decide +kernel)
  · exact chk_in (i := 238) (by decide +kernel)
  · exact fun _ _ => chk_in (i := 239) (by decide +kernel)
  · exact chk_in (i := 39) (by decide +kernel)
theorem mw_47 : mwOK 47 := by
  refine mwOK_mk (y := (⟨"EvenWords", "sends", "(I)I"⟩ : MethodName)) (n := 1) rfl ?_ ?_ ?_ ?_ (by decide +kernel) (by decide +kernel) pmd_1 rfl (by decide +kernel)
  · exact chk_in (i := 307) (by decide +kernel)
  · exact chk_in (i := 305) (by decide +kernel)
  · exact fun _ _ => chk_in (i := 306) (by decide +kernel)
  · exact chk_in (i := 39) (by decide +kernel)
theorem mw_48 : mwOK 48 := by
  refine mwOK_mk (y := (⟨"EvenWords", "marks", "(I)I"⟩ : MethodName)) (n := 1) rfl ?_ ?_ ?_ ?_ (by decide +kernel) (by decide +kernel) pmd_1 rfl (by decide +kernel)
  · exact chk_in (i := 315) (by decide +kernel)
  · exact chk_in (i := 313) (by decide +kernel)
  · exact fun _ _ => chk_in (i := 314) (by decide +kernel)
  · exact chk_in (i := 39) (by decide +kernel)
theorem mw_49 : mwOK 49 := by
  refine mwOK_mk (y := (⟨"EvenWords", "flips", "(I)I"⟩ : MethodName)) (n := 1) rfl ?_ ?_ ?_ ?_ (by decide +kernel) (by decide +kernel) pmd_1 rfl (by decide +kernel)
  · exact chk_in (i := 319) (by decide +kernel)
  · exact chk_in (i := 317) (by decide +kernel)
  · exact fun _ _ => chk_in (i := 318) (by decide +kernel)
  · exact chk_in (i := 39) (by decide +kernel)
theorem mw_50 : mwOK 50 := by
  refine mwOK_mk (y := (⟨"EvenWords", "clears", "()I"⟩ : MethodName)) (n := 0) rfl ?_ ?_ ?_ ?_ (by decide +kernel) (by decide +kernel) pmd_9 rfl (by decide +kernel)
  · exact chk_in (i := 343) (by decide +kernel)
  · exact chk_in (i := 341) (by decide +kernel)
  · exact fun _ _ => chk_in (i := 342) (by decide +kernel)
  · exact chk_in (i := 39) (by decide +kernel)
theorem mw_51 : mwOK 51 := by
  refine mwOK_mk (y := (⟨"EvenWords", "undo", "()I"⟩ : MethodName)) (n := 0) rfl ?_ ?_ ?_ ?_ (by decide +kernel) (by decide +kernel) pmd_9 rfl (by decide +kernel)
  · exact chk_in (i := 351) (by decide +kernel)
  · exact chk_in (i := 349) (by decide +kernel)
  · exact fun _ _ => chk_in (i := 350) (by decide +kernel)
  · exact chk_in (i := 39) (by decide +kernel)
theorem mw_52 : mwOK 52 := by
  refine mwOK_mk (y := (⟨"EvenWords", "form", "(II)I"⟩ : MethodName)) (n := 2) rfl ?_ ?_ ?_ ?_ (by decide +kernel) (by decide +kernel) pmd_2 rfl (by decide +kernel)
  · exact chk_in (i := 355) (by decide +kernel)
  · exact chk_in (i := 353) (by decide +kernel)
  · exact fun _ _ => chk_in (i := 354) (by decide +kernel)
  · exact chk_in (i := 39) (by decide +kernel)
theorem mw_53 : mwOK 53 := by
  refine mwOK_mk (y := (⟨"EvenWords", "bit", "(I)I"⟩ : MethodName)) (n := 1) rfl ?_ ?_ ?_ ?_ (by decide +kernel) (by decide +kernel) pmd_1 rfl (by decide +kernel)
  · exact chk_in (i := 364) (by decide +kernel)
  · exact chk_in (i := 362) (by decide +kernel)
  · exact fun _ _ => chk_in (i := 363) (by decide +kernel)
  · exact chk_in (i := 39) (by decide +kernel)
theorem mw_54 : mwOK 54 := by
  refine mwOK_mk (y := (⟨"EvenWords", "word", "(I)I"⟩ : MethodName)) (n := 1) rfl ?_ ?_ ?_ ?_ (by decide +kernel) (by decide +kernel) pmd_1 rfl (by decide +kernel)
  · exact chk_in (i := 368) (by decide +kernel)
  · exact chk_in (i := 366) (by decide +kernel)
  · exact fun _ _ => chk_in (i := 367) (by decide +kernel)
  · exact chk_in (i := 39) (by decide +kernel)
theorem mw_55 : mwOK 55 := by
  refine mwOK_mk (y := (⟨"EvenWords", "recent", "(I)I"⟩ : MethodName)) (n := 1) rfl ?_ ?_ ?_ ?_ (by decide +kernel) (by decide +kernel) pmd_1 rfl (by decide +kernel)
  · exact chk_in (i := 372) (by decide +kernel)
  · exact chk_in (i := 370) (by decide +kernel)
  · exact fun _ _ => chk_in (i := 371) (by decide +kernel)
  · exact chk_in (i := 39) (by decide +kernel)
theorem mw_56 : mwOK 56 := by
  refine mwOK_mk (y := (⟨"EvenWords", "piece", "(IIII)I"⟩ : MethodName)) (n := 4) rfl ?_ ?_ ?_ ?_ (by decide +kernel) (by decide +kernel) pmd_12 rfl (by decide +kernel)
  · exact chk_in (i := 380) (by decide +kernel)
  · exact chk_in (i := 378) (by decide +kernel)
  · exact fun _ _ => chk_in (i := 379) (by decide +kernel)
  · exact chk_in (i := 39) (by decide +kernel)
theorem mw_57 : mwOK 57 := by
  refine mwOK_mk (y := (⟨"EvenWords", "read", "(III)I"⟩ : MethodName)) (n := 3) rfl ?_ ?_ ?_ ?_ (by decide +kernel) (by decide +kernel) pmd_13 rfl (by decide +kernel)
  · exact chk_in (i := 450) (by decide +kernel)
  · exact chk_in (i := 448) (by decide +kernel)
  · exact fun _ _ => chk_in (i := 449) (by decide +kernel)
  · exact chk_in (i := 39) (by decide +kernel)
theorem mw_58 : mwOK 58 := by
  refine mwOK_mk (y := (⟨"EvenWords", "cuts", "(I)I"⟩ : MethodName)) (n := 1) rfl ?_ ?_ ?_ ?_ (by decide +kernel) (by decide +kernel) pmd_1 rfl (by decide +kernel)
  · exact chk_in (i := 476) (by decide +kernel)
  · exact chk_in (i := 474) (by decide +kernel)
  · exact fun _ _ => chk_in (i := 475) (by decide +kernel)
  · exact chk_in (i := 39) (by decide +kernel)
theorem mw_59 : mwOK 59 := by
  refine mwOK_mk (y := (⟨"EvenWords", "level", "(II)I"⟩ : MethodName)) (n := 2) rfl ?_ ?_ ?_ ?_ (by decide +kernel) (by decide +kernel) pmd_2 rfl (by decide +kernel)
  · exact chk_in (i := 480) (by decide +kernel)
  · exact chk_in (i := 478) (by decide +kernel)
  · exact fun _ _ => chk_in (i := 479) (by decide +kernel)
  · exact chk_in (i := 39) (by decide +kernel)
theorem mw_60 : mwOK 60 := by
  refine mwOK_mk (y := (⟨"EvenWords", "evenest", "(II)I"⟩ : MethodName)) (n := 2) rfl ?_ ?_ ?_ ?_ (by decide +kernel) (by decide +kernel) pmd_2 rfl (by decide +kernel)
  · exact chk_in (i := 488) (by decide +kernel)
  · exact chk_in (i := 486) (by decide +kernel)
  · exact fun _ _ => chk_in (i := 487) (by decide +kernel)
  · exact chk_in (i := 39) (by decide +kernel)
theorem mw_61 : mwOK 61 := by
  refine mwOK_mk (y := (⟨"EvenWords", "weight", "(I)I"⟩ : MethodName)) (n := 1) rfl ?_ ?_ ?_ ?_ (by decide +kernel) (by decide +kernel) pmd_1 rfl (by decide +kernel)
  · exact chk_in (i := 515) (by decide +kernel)
  · exact chk_in (i := 513) (by decide +kernel)
  · exact fun _ _ => chk_in (i := 514) (by decide +kernel)
  · exact chk_in (i := 39) (by decide +kernel)
theorem mw_62 : mwOK 62 := by
  refine mwOK_mk (y := (⟨"EvenWords", "keep", "(I)I"⟩ : MethodName)) (n := 1) rfl ?_ ?_ ?_ ?_ (by decide +kernel) (by decide +kernel) pmd_1 rfl (by decide +kernel)
  · exact chk_in (i := 521) (by decide +kernel)
  · exact chk_in (i := 519) (by decide +kernel)
  · exact fun _ _ => chk_in (i := 520) (by decide +kernel)
  · exact chk_in (i := 39) (by decide +kernel)
theorem mw_63 : mwOK 63 := by
  refine mwOK_mk (y := (⟨"EvenWords", "back", "(I)I"⟩ : MethodName)) (n := 1) rfl ?_ ?_ ?_ ?_ (by decide +kernel) (by decide +kernel) pmd_1 rfl (by decide +kernel)
  · exact chk_in (i := 525) (by decide +kernel)
  · exact chk_in (i := 523) (by decide +kernel)
  · exact fun _ _ => chk_in (i := 524) (by decide +kernel)
  · exact chk_in (i := 39) (by decide +kernel)
theorem mw_64 : mwOK 64 := by
  refine mwOK_mk (y := (⟨"EvenWords", "count", "(I)I"⟩ : MethodName)) (n := 1) rfl ?_ ?_ ?_ ?_ (by decide +kernel) (by decide +kernel) pmd_1 rfl (by decide +kernel)
  · exact chk_in (i := 529) (by decide +kernel)
  · exact chk_in (i := 527) (by decide +kernel)
  · exact fun _ _ => chk_in (i := 528) (by decide +kernel)
  · exact chk_in (i := 39) (by decide +kernel)
theorem mw_65 : mwOK 65 := by
  refine mwOK_mk (y := (⟨"EvenWords", "sendOne", "(I)I"⟩ : MethodName)) (n := 1) rfl ?_ ?_ ?_ ?_ (by decide +kernel) (by decide +kernel) pmd_1 rfl (by decide +kernel)
  · exact chk_in (i := 311) (by decide +kernel)
  · exact chk_in (i := 310) (by decide +kernel)
  · exact fun _ _ => chk_in (i := 9) (by decide +kernel)
  · exact chk_in (i := 39) (by decide +kernel)
theorem mw_66 : mwOK 66 := by
  refine mwOK_mk (y := (⟨"EvenWords", "remember", "()V"⟩ : MethodName)) (n := 0) rfl ?_ ?_ ?_ ?_ (by decide +kernel) (by decide +kernel) pmd_4 rfl (by decide +kernel)
  · exact chk_in (i := 268) (by decide +kernel)
  · exact chk_in (i := 267) (by decide +kernel)
  · exact fun _ _ => chk_in (i := 6) (by decide +kernel)
  · exact chk_in (i := 39) (by decide +kernel)
theorem mw_67 : mwOK 67 := by
  refine mwOK_mk (y := (⟨"EvenWords", "forgetOldest", "()V"⟩ : MethodName)) (n := 0) rfl ?_ ?_ ?_ ?_ (by decide +kernel) (by decide +kernel) pmd_4 rfl (by decide +kernel)
  · exact chk_in (i := 272) (by decide +kernel)
  · exact chk_in (i := 271) (by decide +kernel)
  · exact fun _ _ => chk_in (i := 7) (by decide +kernel)
  · exact chk_in (i := 39) (by decide +kernel)
theorem mw_68 : mwOK 68 := by
  refine mwOK_mk (y := (⟨"EvenWords", "longestRun", "()I"⟩ : MethodName)) (n := 0) rfl ?_ ?_ ?_ ?_ (by decide +kernel) (by decide +kernel) pmd_9 rfl (by decide +kernel)
  · exact chk_in (i := 542) (by decide +kernel)
  · exact chk_in (i := 541) (by decide +kernel)
  · exact fun _ _ => chk_in (i := 14) (by decide +kernel)
  · exact chk_in (i := 39) (by decide +kernel)
theorem mw_69 : mwOK 69 := by
  refine mwOK_mk (y := (⟨"EvenWords", "faultPlace", "()I"⟩ : MethodName)) (n := 0) rfl ?_ ?_ ?_ ?_ (by decide +kernel) (by decide +kernel) pmd_9 rfl (by decide +kernel)
  · exact chk_in (i := 244) (by decide +kernel)
  · exact chk_in (i := 243) (by decide +kernel)
  · exact fun _ _ => chk_in (i := 0) (by decide +kernel)
  · exact chk_in (i := 39) (by decide +kernel)
theorem mw_70 : mwOK 70 := by
  refine mwOK_mk (y := (⟨"EvenWords", "tokenEnd", "(I)I"⟩ : MethodName)) (n := 1) rfl ?_ ?_ ?_ ?_ (by decide +kernel) (by decide +kernel) pmd_1 rfl (by decide +kernel)
  · exact chk_in (i := 248) (by decide +kernel)
  · exact chk_in (i := 247) (by decide +kernel)
  · exact fun _ _ => chk_in (i := 1) (by decide +kernel)
  · exact chk_in (i := 39) (by decide +kernel)
theorem mw_71 : mwOK 71 := by
  refine mwOK_mk (y := (⟨"EvenWords", "isFigure", "(I)Z"⟩ : MethodName)) (n := 1) rfl ?_ ?_ ?_ ?_ (by decide +kernel) (by decide +kernel) pmd_0 rfl (by decide +kernel)
  · exact chk_in (i := 252) (by decide +kernel)
  · exact chk_in (i := 251) (by decide +kernel)
  · exact fun _ _ => chk_in (i := 2) (by decide +kernel)
  · exact chk_in (i := 39) (by decide +kernel)
theorem mw_72 : mwOK 72 := by
  refine mwOK_mk (y := (⟨"EvenWords", "afterToken", "(III)I"⟩ : MethodName)) (n := 3) rfl ?_ ?_ ?_ ?_ (by decide +kernel) (by decide +kernel) pmd_13 rfl (by decide +kernel)
  · exact chk_in (i := 256) (by decide +kernel)
  · exact chk_in (i := 255) (by decide +kernel)
  · exact fun _ _ => chk_in (i := 3) (by decide +kernel)
  · exact chk_in (i := 39) (by decide +kernel)
theorem mw_73 : mwOK 73 := by
  refine mwOK_mk (y := (⟨"EvenWords", "afterNumber", "(III)I"⟩ : MethodName)) (n := 3) rfl ?_ ?_ ?_ ?_ (by decide +kernel) (by decide +kernel) pmd_13 rfl (by decide +kernel)
  · exact chk_in (i := 264) (by decide +kernel)
  · exact chk_in (i := 263) (by decide +kernel)
  · exact fun _ _ => chk_in (i := 5) (by decide +kernel)
  · exact chk_in (i := 39) (by decide +kernel)
theorem mw_74 : mwOK 74 := by
  refine mwOK_mk (y := (⟨"EvenWords", "numberAt", "(II)I"⟩ : MethodName)) (n := 2) rfl ?_ ?_ ?_ ?_ (by decide +kernel) (by decide +kernel) pmd_2 rfl (by decide +kernel)
  · exact chk_in (i := 260) (by decide +kernel)
  · exact chk_in (i := 259) (by decide +kernel)
  · exact fun _ _ => chk_in (i := 4) (by decide +kernel)
  · exact chk_in (i := 39) (by decide +kernel)
theorem mw_75 : mwOK 75 := by
  refine mwOK_mk (y := (⟨"EvenWords", "canRead", "(II)Z"⟩ : MethodName)) (n := 2) rfl ?_ ?_ ?_ ?_ (by decide +kernel) (by decide +kernel) pmd_3 rfl (by decide +kernel)
  · exact chk_in (i := 383) (by decide +kernel)
  · exact chk_in (i := 382) (by decide +kernel)
  · exact fun h1 h2 => absurd h2 (by decide +kernel)
  · exact chk_in (i := 39) (by decide +kernel)
theorem mw_76 : mwOK 76 := by
  refine mwOK_mk (y := (⟨"EvenWords", "sumOf", "(I)I"⟩ : MethodName)) (n := 1) rfl ?_ ?_ ?_ ?_ (by decide +kernel) (by decide +kernel) pmd_1 rfl (by decide +kernel)
  · exact chk_in (i := 386) (by decide +kernel)
  · exact chk_in (i := 385) (by decide +kernel)
  · exact fun h1 h2 => absurd h2 (by decide +kernel)
  · exact chk_in (i := 39) (by decide +kernel)
theorem mw_77 : mwOK 77 := by
  refine mwOK_mk (y := (⟨"EvenWords", "signOf", "(I)I"⟩ : MethodName)) (n := 1) rfl ?_ ?_ ?_ ?_ (by decide +kernel) (by decide +kernel) pmd_1 rfl (by decide +kernel)
  · exact chk_in (i := 446) (by decide +kernel)
  · exact chk_in (i := 445) (by decide +kernel)
  · exact fun h1 h2 => absurd h2 (by decide +kernel)
  · exact chk_in (i := 39) (by decide +kernel)
theorem mw_78 : mwOK 78 := by
  refine mwOK_mk (y := (⟨"EvenWordsModel", "<init>", "()V"⟩ : MethodName)) (n := 0) rfl ?_ ?_ ?_ ?_ (by decide +kernel) (by decide +kernel) pmd_4 rfl (by decide +kernel)
  · exact chk_in (i := 551) (by decide +kernel)
  · exact chk_in (i := 550) (by decide +kernel)
  · exact fun h1 h2 => absurd h1 (by decide +kernel)
  · exact chk_in (i := 44) (by decide +kernel)
theorem mw_79 : mwOK 79 := by
  refine mwOK_mk (y := (⟨"EvenWordsModel", "bares", "()V"⟩ : MethodName)) (n := 0) rfl ?_ ?_ ?_ ?_ (by decide +kernel) (by decide +kernel) pmd_4 rfl (by decide +kernel)
  · exact chk_in (i := 556) (by decide +kernel)
  · exact chk_in (i := 555) (by decide +kernel)
  · exact fun _ _ => chk_in (i := 15) (by decide +kernel)
  · exact chk_in (i := 44) (by decide +kernel)
theorem mw_80 : mwOK 80 := by
  refine mwOK_mk (y := (⟨"EvenWordsModel", "in", "(III)Z"⟩ : MethodName)) (n := 3) rfl ?_ ?_ ?_ ?_ (by decide +kernel) (by decide +kernel) pmd_14 rfl (by decide +kernel)
  · exact chk_in (i := 660) (by decide +kernel)
  · exact chk_in (i := 659) (by decide +kernel)
  · exact fun h1 h2 => absurd h2 (by decide +kernel)
  · exact chk_in (i := 44) (by decide +kernel)
theorem mw_81 : mwOK 81 := by
  refine mwOK_mk (y := (⟨"EvenWordsModel", "ones", "(I)I"⟩ : MethodName)) (n := 1) rfl ?_ ?_ ?_ ?_ (by decide +kernel) (by decide +kernel) pmd_1 rfl (by decide +kernel)
  · exact chk_in (i := 701) (by decide +kernel)
  · exact chk_in (i := 700) (by decide +kernel)
  · exact fun h1 h2 => absurd h2 (by decide +kernel)
  · exact chk_in (i := 44) (by decide +kernel)
theorem mw_82 : mwOK 82 := by
  refine mwOK_mk (y := (⟨"EvenWordsModel", "isMark", "(I)Z"⟩ : MethodName)) (n := 1) rfl ?_ ?_ ?_ ?_ (by decide +kernel) (by decide +kernel) pmd_0 rfl (by decide +kernel)
  · exact chk_in (i := 704) (by decide +kernel)
  · exact chk_in (i := 703) (by decide +kernel)
  · exact fun h1 h2 => absurd h2 (by decide +kernel)
  · exact chk_in (i := 44) (by decide +kernel)
theorem mw_83 : mwOK 83 := by
  refine mwOK_mk (y := (⟨"EvenWordsModel", "kth", "(II)I"⟩ : MethodName)) (n := 2) rfl ?_ ?_ ?_ ?_ (by decide +kernel) (by decide +kernel) pmd_2 rfl (by decide +kernel)
  · exact chk_in (i := 698) (by decide +kernel)
  · exact chk_in (i := 697) (by decide +kernel)
  · exact fun h1 h2 => absurd h2 (by decide +kernel)
  · exact chk_in (i := 44) (by decide +kernel)
theorem mw_84 : mwOK 84 := by
  refine mwOK_mk (y := (⟨"EvenWordsModel", "formOf", "(II)I"⟩ : MethodName)) (n := 2) rfl ?_ ?_ ?_ ?_ (by decide +kernel) (by decide +kernel) pmd_2 rfl (by decide +kernel)
  · exact chk_in (i := 695) (by decide +kernel)
  · exact chk_in (i := 694) (by decide +kernel)
  · exact fun h1 h2 => absurd h2 (by decide +kernel)
  · exact chk_in (i := 44) (by decide +kernel)
theorem mw_85 : mwOK 85 := by
  refine mwOK_mk (y := (⟨"EvenWordsModel", "lays", "()V"⟩ : MethodName)) (n := 0) rfl ?_ ?_ ?_ ?_ (by decide +kernel) (by decide +kernel) pmd_4 rfl (by decide +kernel)
  · exact chk_in (i := 766) (by decide +kernel)
  · exact chk_in (i := 765) (by decide +kernel)
  · exact fun _ _ => chk_in (i := 25) (by decide +kernel)
  · exact chk_in (i := 44) (by decide +kernel)
theorem mw_86 : mwOK 86 := by
  refine mwOK_mk (y := (⟨"EvenWordsModel", "letterAt", "(I)I"⟩ : MethodName)) (n := 1) rfl ?_ ?_ ?_ ?_ (by decide +kernel) (by decide +kernel) pmd_1 rfl (by decide +kernel)
  · exact chk_in (i := 680) (by decide +kernel)
  · exact chk_in (i := 679) (by decide +kernel)
  · exact fun _ _ => chk_in (i := 18) (by decide +kernel)
  · exact chk_in (i := 44) (by decide +kernel)
theorem mw_87 : mwOK 87 := by
  refine mwOK_mk (y := (⟨"EvenWordsModel", "type", "(I)I"⟩ : MethodName)) (n := 1) rfl ?_ ?_ ?_ ?_ (by decide +kernel) (by decide +kernel) pmd_1 rfl (by decide +kernel)
  · exact chk_in (i := 657) (by decide +kernel)
  · exact chk_in (i := 655) (by decide +kernel)
  · exact fun _ _ => chk_in (i := 656) (by decide +kernel)
  · exact chk_in (i := 44) (by decide +kernel)
theorem mw_88 : mwOK 88 := by
  refine mwOK_mk (y := (⟨"EvenWordsModel", "clear", "()I"⟩ : MethodName)) (n := 0) rfl ?_ ?_ ?_ ?_ (by decide +kernel) (by decide +kernel) pmd_9 rfl (by decide +kernel)
  · exact chk_in (i := 664) (by decide +kernel)
  · exact chk_in (i := 662) (by decide +kernel)
  · exact fun _ _ => chk_in (i := 663) (by decide +kernel)
  · exact chk_in (i := 44) (by decide +kernel)
theorem mw_89 : mwOK 89 := by
  refine mwOK_mk (y := (⟨"EvenWordsModel", "advances", "()V"⟩ : MethodName)) (n := 0) rfl ?_ ?_ ?_ ?_ (by decide +kernel) (by decide +kernel) pmd_4 rfl (by decide +kernel)
  · exact chk_in (i := 676) (by decide +kernel)
  · exact chk_in (i := 675) (by decide +kernel)
  · exact fun _ _ => chk_in (i := 17) (by decide +kernel)
  · exact chk_in (i := 44) (by decide +kernel)
theorem mw_90 : mwOK 90 := by
  refine mwOK_mk (y := (⟨"EvenWordsModel", "takes", "(Z)I"⟩ : MethodName)) (n := 1) rfl ?_ ?_ ?_ ?_ (by decide +kernel) (by decide +kernel) pmd_15 rfl (by decide +kernel)
  · exact chk_in (i := 684) (by decide +kernel)
  · exact chk_in (i := 683) (by decide +kernel)
  · exact fun _ _ => chk_in (i := 19) (by decide +kernel)
  · exact chk_in (i := 44) (by decide +kernel)
theorem mw_91 : mwOK 91 := by
  refine mwOK_mk (y := (⟨"EvenWordsModel", "readsText", "()V"⟩ : MethodName)) (n := 0) rfl ?_ ?_ ?_ ?_ (by decide +kernel) (by decide +kernel) pmd_4 rfl (by decide +kernel)
  · exact chk_in (i := 672) (by decide +kernel)
  · exact chk_in (i := 671) (by decide +kernel)
  · exact fun _ _ => chk_in (i := 16) (by decide +kernel)
  · exact chk_in (i := 44) (by decide +kernel)
theorem mw_92 : mwOK 92 := by
  refine mwOK_mk (y := (⟨"EvenWordsModel", "tells", "()I"⟩ : MethodName)) (n := 0) rfl ?_ ?_ ?_ ?_ (by decide +kernel) (by decide +kernel) pmd_9 rfl (by decide +kernel)
  · exact chk_in (i := 668) (by decide +kernel)
  · exact chk_in (i := 666) (by decide +kernel)
  · exact fun _ _ => chk_in (i := 667) (by decide +kernel)
  · exact chk_in (i := 44) (by decide +kernel)
theorem mw_93 : mwOK 93 := by
  refine mwOK_mk (y := (⟨"EvenWordsModel", "notes", "()V"⟩ : MethodName)) (n := 0) rfl ?_ ?_ ?_ ?_ (by decide +kernel) (by decide +kernel) pmd_4 rfl (by decide +kernel)
  · exact chk_in (i := 688) (by decide +kernel)
  · exact chk_in (i := 687) (by decide +kernel)
  · exact fun _ _ => chk_in (i := 20) (by decide +kernel)
  · exact chk_in (i := 44) (by decide +kernel)
theorem mw_94 : mwOK 94 := by
  refine mwOK_mk (y := (⟨"EvenWordsModel", "remembers", "(I)V"⟩ : MethodName)) (n := 1) rfl ?_ ?_ ?_ ?_ (by decide +kernel) (by decide +kernel) pmd_7 rfl (by decide +kernel)
  · exact chk_in (i := 708) (by decide +kernel)
  · exact chk_in (i := 707) (by decide +kernel)
  · exact fun _ _ => chk_in (i := 22) (by decide +kernel)
  · exact chk_in (i := 44) (by decide +kernel)
theorem mw_95 : mwOK 95 := by
  refine mwOK_mk (y := (⟨"EvenWordsModel", "sent", "(I)I"⟩ : MethodName)) (n := 1) rfl ?_ ?_ ?_ ?_ (by decide +kernel) (by decide +kernel) pmd_1 rfl (by decide +kernel)
  · exact chk_in (i := 692) (by decide +kernel)
  · exact chk_in (i := 691) (by decide +kernel)
  · exact fun _ _ => chk_in (i := 21) (by decide +kernel)
  · exact chk_in (i := 44) (by decide +kernel)
theorem mw_96 : mwOK 96 := by
  refine mwOK_mk (y := (⟨"EvenWordsModel", "sends", "(I)I"⟩ : MethodName)) (n := 1) rfl ?_ ?_ ?_ ?_ (by decide +kernel) (by decide +kernel) pmd_1 rfl (by decide +kernel)
  · exact chk_in (i := 712) (by decide +kernel)
  · exact chk_in (i := 710) (by decide +kernel)
  · exact fun _ _ => chk_in (i := 711) (by decide +kernel)
  · exact chk_in (i := 44) (by decide +kernel)
theorem mw_97 : mwOK 97 := by
  refine mwOK_mk (y := (⟨"EvenWordsModel", "marks", "(I)I"⟩ : MethodName)) (n := 1) rfl ?_ ?_ ?_ ?_ (by decide +kernel) (by decide +kernel) pmd_1 rfl (by decide +kernel)
  · exact chk_in (i := 716) (by decide +kernel)
  · exact chk_in (i := 714) (by decide +kernel)
  · exact fun _ _ => chk_in (i := 715) (by decide +kernel)
  · exact chk_in (i := 44) (by decide +kernel)
theorem mw_98 : mwOK 98 := by
  refine mwOK_mk (y := (⟨"EvenWordsModel", "isBit", "(I)Z"⟩ : MethodName)) (n := 1) rfl ?_ ?_ ?_ ?_ (by decide +kernel) (by decide +kernel) pmd_0 rfl (by decide +kernel)
  · exact chk_in (i := 724) (by decide +kernel)
  · exact chk_in (i := 723) (by decide +kernel)
  · exact fun _ _ => chk_in (i := 23) (by decide +kernel)
  · exact chk_in (i := 44) (by decide +kernel)
theorem mw_99 : mwOK 99 := by
  refine mwOK_mk (y := (⟨"EvenWordsModel", "flips", "(I)I"⟩ : MethodName)) (n := 1) rfl ?_ ?_ ?_ ?_ (by decide +kernel) (by decide +kernel) pmd_1 rfl (by decide +kernel)
  · exact chk_in (i := 720) (by decide +kernel)
  · exact chk_in (i := 718) (by decide +kernel)
  · exact fun _ _ => chk_in (i := 719) (by decide +kernel)
  · exact chk_in (i := 44) (by decide +kernel)
theorem mw_100 : mwOK 100 := by
  refine mwOK_mk (y := (⟨"EvenWordsModel", "clears", "()I"⟩ : MethodName)) (n := 0) rfl ?_ ?_ ?_ ?_ (by decide +kernel) (by decide +kernel) pmd_9 rfl (by decide +kernel)
  · exact chk_in (i := 728) (by decide +kernel)
  · exact chk_in (i := 726) (by decide +kernel)
  · exact fun _ _ => chk_in (i := 727) (by decide +kernel)
  · exact chk_in (i := 44) (by decide +kernel)
theorem mw_101 : mwOK 101 := by
  refine mwOK_mk (y := (⟨"EvenWordsModel", "undo", "()I"⟩ : MethodName)) (n := 0) rfl ?_ ?_ ?_ ?_ (by decide +kernel) (by decide +kernel) pmd_9 rfl (by decide +kernel)
  · exact chk_in (i := 732) (by decide +kernel)
  · exact chk_in (i := 730) (by decide +kernel)
  · exact fun _ _ => chk_in (i := 731) (by decide +kernel)
  · exact chk_in (i := 44) (by decide +kernel)
theorem mw_102 : mwOK 102 := by
  refine mwOK_mk (y := (⟨"EvenWordsModel", "form", "(II)I"⟩ : MethodName)) (n := 2) rfl ?_ ?_ ?_ ?_ (by decide +kernel) (by decide +kernel) pmd_2 rfl (by decide +kernel)
  · exact chk_in (i := 736) (by decide +kernel)
  · exact chk_in (i := 734) (by decide +kernel)
  · exact fun _ _ => chk_in (i := 735) (by decide +kernel)
  · exact chk_in (i := 44) (by decide +kernel)
theorem mw_103 : mwOK 103 := by
  refine mwOK_mk (y := (⟨"EvenWordsModel", "bit", "(I)I"⟩ : MethodName)) (n := 1) rfl ?_ ?_ ?_ ?_ (by decide +kernel) (by decide +kernel) pmd_1 rfl (by decide +kernel)
  · exact chk_in (i := 740) (by decide +kernel)
  · exact chk_in (i := 738) (by decide +kernel)
  · exact fun _ _ => chk_in (i := 739) (by decide +kernel)
  · exact chk_in (i := 44) (by decide +kernel)
theorem mw_104 : mwOK 104 := by
  refine mwOK_mk (y := (⟨"EvenWordsModel", "word", "(I)I"⟩ : MethodName)) (n := 1) rfl ?_ ?_ ?_ ?_ (by decide +kernel) (by decide +kernel) pmd_1 rfl (by decide +kernel)
  · exact chk_in (i := 744) (by decide +kernel)
  · exact chk_in (i := 742) (by decide +kernel)
  · exact fun _ _ => chk_in (i := 743) (by decide +kernel)
  · exact chk_in (i := 44) (by decide +kernel)
theorem mw_105 : mwOK 105 := by
  refine mwOK_mk (y := (⟨"EvenWordsModel", "recent", "(I)I"⟩ : MethodName)) (n := 1) rfl ?_ ?_ ?_ ?_ (by decide +kernel) (by decide +kernel) pmd_1 rfl (by decide +kernel)
  · exact chk_in (i := 748) (by decide +kernel)
  · exact chk_in (i := 746) (by decide +kernel)
  · exact fun _ _ => chk_in (i := 747) (by decide +kernel)
  · exact chk_in (i := 44) (by decide +kernel)
theorem mw_106 : mwOK 106 := by
  refine mwOK_mk (y := (⟨"EvenWordsModel", "bitAt", "(II)I"⟩ : MethodName)) (n := 2) rfl ?_ ?_ ?_ ?_ (by decide +kernel) (by decide +kernel) pmd_2 rfl (by decide +kernel)
  · exact chk_in (i := 770) (by decide +kernel)
  · exact chk_in (i := 769) (by decide +kernel)
  · exact fun _ _ => chk_in (i := 26) (by decide +kernel)
  · exact chk_in (i := 44) (by decide +kernel)
theorem mw_107 : mwOK 107 := by
  refine mwOK_mk (y := (⟨"EvenWordsModel", "reads", "(III)V"⟩ : MethodName)) (n := 3) rfl ?_ ?_ ?_ ?_ (by decide +kernel) (by decide +kernel) pmd_16 rfl (by decide +kernel)
  · exact chk_in (i := 762) (by decide +kernel)
  · exact chk_in (i := 761) (by decide +kernel)
  · exact fun _ _ => chk_in (i := 24) (by decide +kernel)
  · exact chk_in (i := 44) (by decide +kernel)
theorem mw_108 : mwOK 108 := by
  refine mwOK_mk (y := (⟨"EvenWordsModel", "firstBreach", "()I"⟩ : MethodName)) (n := 0) rfl ?_ ?_ ?_ ?_ (by decide +kernel) (by decide +kernel) pmd_9 rfl (by decide +kernel)
  · exact chk_in (i := 779) (by decide +kernel)
  · exact chk_in (i := 778) (by decide +kernel)
  · exact fun _ _ => chk_in (i := 27) (by decide +kernel)
  · exact chk_in (i := 44) (by decide +kernel)
theorem mw_109 : mwOK 109 := by
  refine mwOK_mk (y := (⟨"EvenWordsModel", "isBegin", "(II)Z"⟩ : MethodName)) (n := 2) rfl ?_ ?_ ?_ ?_ (by decide +kernel) (by decide +kernel) pmd_3 rfl (by decide +kernel)
  · exact chk_in (i := 755) (by decide +kernel)
  · exact chk_in (i := 754) (by decide +kernel)
  · exact fun h1 h2 => absurd h2 (by decide +kernel)
  · exact chk_in (i := 44) (by decide +kernel)
theorem mw_110 : mwOK 110 := by
  refine mwOK_mk (y := (⟨"EvenWordsModel", "sumOf", "(I)I"⟩ : MethodName)) (n := 1) rfl ?_ ?_ ?_ ?_ (by decide +kernel) (by decide +kernel) pmd_1 rfl (by decide +kernel)
  · exact chk_in (i := 758) (by decide +kernel)
  · exact chk_in (i := 757) (by decide +kernel)
  · exact fun h1 h2 => absurd h2 (by decide +kernel)
  · exact chk_in (i := 44) (by decide +kernel)
theorem mw_111 : mwOK 111 := by
  refine mwOK_mk (y := (⟨"EvenWordsModel", "piece", "(IIII)I"⟩ : MethodName)) (n := 4) rfl ?_ ?_ ?_ ?_ (by decide +kernel) (by decide +kernel) pmd_12 rfl (by decide +kernel)
  · exact chk_in (i := 752) (by decide +kernel)
  · exact chk_in (i := 750) (by decide +kernel)
  · exact fun _ _ => chk_in (i := 751) (by decide +kernel)
  · exact chk_in (i := 44) (by decide +kernel)
theorem mw_112 : mwOK 112 := by
  refine mwOK_mk (y := (⟨"EvenWordsModel", "blames", "(II)V"⟩ : MethodName)) (n := 2) rfl ?_ ?_ ?_ ?_ (by decide +kernel) (by decide +kernel) pmd_17 rfl (by decide +kernel)
  · exact chk_in (i := 783) (by decide +kernel)
  · exact chk_in (i := 782) (by decide +kernel)
  · exact fun _ _ => chk_in (i := 28) (by decide +kernel)
  · exact chk_in (i := 44) (by decide +kernel)
theorem mw_113 : mwOK 113 := by
  refine mwOK_mk (y := (⟨"EvenWordsModel", "read", "(III)I"⟩ : MethodName)) (n := 3) rfl ?_ ?_ ?_ ?_ (by decide +kernel) (by decide +kernel) pmd_13 rfl (by decide +kernel)
  · exact chk_in (i := 774) (by decide +kernel)
  · exact chk_in (i := 772) (by decide +kernel)
  · exact fun _ _ => chk_in (i := 773) (by decide +kernel)
  · exact chk_in (i := 44) (by decide +kernel)
theorem mw_114 : mwOK 114 := by
  refine mwOK_mk (y := (⟨"EvenWordsModel", "cuts", "(I)I"⟩ : MethodName)) (n := 1) rfl ?_ ?_ ?_ ?_ (by decide +kernel) (by decide +kernel) pmd_1 rfl (by decide +kernel)
  · exact chk_in (i := 788) (by decide +kernel)
  · exact chk_in (i := 786) (by decide +kernel)
  · exact fun _ _ => chk_in (i := 787) (by decide +kernel)
  · exact chk_in (i := 44) (by decide +kernel)
theorem mw_115 : mwOK 115 := by
  refine mwOK_mk (y := (⟨"EvenWordsModel", "laysLevels", "()V"⟩ : MethodName)) (n := 0) rfl ?_ ?_ ?_ ?_ (by decide +kernel) (by decide +kernel) pmd_4 rfl (by decide +kernel)
  · exact chk_in (i := 796) (by decide +kernel)
  · exact chk_in (i := 795) (by decide +kernel)
  · exact fun _ _ => chk_in (i := 29) (by decide +kernel)
  · exact chk_in (i := 44) (by decide +kernel)
theorem mw_116 : mwOK 116 := by
  refine mwOK_mk (y := (⟨"EvenWordsModel", "longest", "()I"⟩ : MethodName)) (n := 0) rfl ?_ ?_ ?_ ?_ (by decide +kernel) (by decide +kernel) pmd_9 rfl (by decide +kernel)
  · exact chk_in (i := 846) (by decide +kernel)
  · exact chk_in (i := 845) (by decide +kernel)
  · exact fun _ _ => chk_in (i := 36) (by decide +kernel)
  · exact chk_in (i := 44) (by decide +kernel)
theorem mw_117 : mwOK 117 := by
  refine mwOK_mk (y := (⟨"EvenWordsModel", "level", "(II)I"⟩ : MethodName)) (n := 2) rfl ?_ ?_ ?_ ?_ (by decide +kernel) (by decide +kernel) pmd_2 rfl (by decide +kernel)
  · exact chk_in (i := 792) (by decide +kernel)
  · exact chk_in (i := 790) (by decide +kernel)
  · exact fun _ _ => chk_in (i := 791) (by decide +kernel)
  · exact chk_in (i := 44) (by decide +kernel)
theorem mw_118 : mwOK 118 := by
  refine mwOK_mk (y := (⟨"EvenWordsModel", "lengthens", "(I)V"⟩ : MethodName)) (n := 1) rfl ?_ ?_ ?_ ?_ (by decide +kernel) (by decide +kernel) pmd_7 rfl (by decide +kernel)
  · exact chk_in (i := 812) (by decide +kernel)
  · exact chk_in (i := 811) (by decide +kernel)
  · exact fun _ _ => chk_in (i := 32) (by decide +kernel)
  · exact chk_in (i := 44) (by decide +kernel)
theorem mw_119 : mwOK 119 := by
  refine mwOK_mk (y := (⟨"EvenWordsModel", "isOrder", "(II)Z"⟩ : MethodName)) (n := 2) rfl ?_ ?_ ?_ ?_ (by decide +kernel) (by decide +kernel) pmd_3 rfl (by decide +kernel)
  · exact chk_in (i := 816) (by decide +kernel)
  · exact chk_in (i := 815) (by decide +kernel)
  · exact fun _ _ => chk_in (i := 33) (by decide +kernel)
  · exact chk_in (i := 44) (by decide +kernel)
theorem mw_120 : mwOK 120 := by
  refine mwOK_mk (y := (⟨"EvenWordsModel", "laysAhead", "(I)V"⟩ : MethodName)) (n := 1) rfl ?_ ?_ ?_ ?_ (by decide +kernel) (by decide +kernel) pmd_7 rfl (by decide +kernel)
  · exact chk_in (i := 808) (by decide +kernel)
  · exact chk_in (i := 807) (by decide +kernel)
  · exact fun _ _ => chk_in (i := 31) (by decide +kernel)
  · exact chk_in (i := 44) (by decide +kernel)
theorem mw_121 : mwOK 121 := by
  refine mwOK_mk (y := (⟨"EvenWordsModel", "evenestOf", "(I)I"⟩ : MethodName)) (n := 1) rfl ?_ ?_ ?_ ?_ (by decide +kernel) (by decide +kernel) pmd_1 rfl (by decide +kernel)
  · exact chk_in (i := 804) (by decide +kernel)
  · exact chk_in (i := 803) (by decide +kernel)
  · exact fun _ _ => chk_in (i := 30) (by decide +kernel)
  · exact chk_in (i := 44) (by decide +kernel)
theorem mw_122 : mwOK 122 := by
  refine mwOK_mk (y := (⟨"EvenWordsModel", "evenest", "(II)I"⟩ : MethodName)) (n := 2) rfl ?_ ?_ ?_ ?_ (by decide +kernel) (by decide +kernel) pmd_2 rfl (by decide +kernel)
  · exact chk_in (i := 800) (by decide +kernel)
  · exact chk_in (i := 798) (by decide +kernel)
  · exact fun _ _ => chk_in (i := 799) (by decide +kernel)
  · exact chk_in (i := 44) (by decide +kernel)
theorem mw_123 : mwOK 123 := by
  refine mwOK_mk (y := (⟨"EvenWordsModel", "weight", "(I)I"⟩ : MethodName)) (n := 1) rfl ?_ ?_ ?_ ?_ (by decide +kernel) (by decide +kernel) pmd_1 rfl (by decide +kernel)
  · exact chk_in (i := 820) (by decide +kernel)
  · exact chk_in (i := 818) (by decide +kernel)
  · exact fun _ _ => chk_in (i := 819) (by decide +kernel)
  · exact chk_in (i := 44) (by decide +kernel)
theorem mw_124 : mwOK 124 := by
  refine mwOK_mk (y := (⟨"EvenWordsModel", "keep", "(I)I"⟩ : MethodName)) (n := 1) rfl ?_ ?_ ?_ ?_ (by decide +kernel) (by decide +kernel) pmd_1 rfl (by decide +kernel)
  · exact chk_in (i := 826) (by decide +kernel)
  · exact chk_in (i := 824) (by decide +kernel)
  · exact fun _ _ => chk_in (i := 825) (by decide +kernel)
  · exact chk_in (i := 44) (by decide +kernel)
theorem mw_125 : mwOK 125 := by
  refine mwOK_mk (y := (⟨"EvenWordsModel", "back", "(I)I"⟩ : MethodName)) (n := 1) rfl ?_ ?_ ?_ ?_ (by decide +kernel) (by decide +kernel) pmd_1 rfl (by decide +kernel)
  · exact chk_in (i := 830) (by decide +kernel)
  · exact chk_in (i := 828) (by decide +kernel)
  · exact fun _ _ => chk_in (i := 829) (by decide +kernel)
  · exact chk_in (i := 44) (by decide +kernel)
theorem mw_126 : mwOK 126 := by
  refine mwOK_mk (y := (⟨"EvenWordsModel", "turnedMany", "()I"⟩ : MethodName)) (n := 0) rfl ?_ ?_ ?_ ?_ (by decide +kernel) (by decide +kernel) pmd_9 rfl (by decide +kernel)
  · exact chk_in (i := 842) (by decide +kernel)
  · exact chk_in (i := 841) (by decide +kernel)
  · exact fun _ _ => chk_in (i := 35) (by decide +kernel)
  · exact chk_in (i := 44) (by decide +kernel)
theorem mw_127 : mwOK 127 := by
  refine mwOK_mk (y := (⟨"EvenWordsModel", "oneMany", "()I"⟩ : MethodName)) (n := 0) rfl ?_ ?_ ?_ ?_ (by decide +kernel) (by decide +kernel) pmd_9 rfl (by decide +kernel)
  · exact chk_in (i := 838) (by decide +kernel)
  · exact chk_in (i := 837) (by decide +kernel)
  · exact fun _ _ => chk_in (i := 34) (by decide +kernel)
  · exact chk_in (i := 44) (by decide +kernel)
theorem mw_128 : mwOK 128 := by
  refine mwOK_mk (y := (⟨"EvenWordsModel", "markMany", "()I"⟩ : MethodName)) (n := 0) rfl ?_ ?_ ?_ ?_ (by decide +kernel) (by decide +kernel) pmd_9 rfl (by decide +kernel)
  · exact chk_in (i := 850) (by decide +kernel)
  · exact chk_in (i := 849) (by decide +kernel)
  · exact fun _ _ => chk_in (i := 37) (by decide +kernel)
  · exact chk_in (i := 44) (by decide +kernel)
theorem mw_129 : mwOK 129 := by
  refine mwOK_mk (y := (⟨"EvenWordsModel", "count", "(I)I"⟩ : MethodName)) (n := 1) rfl ?_ ?_ ?_ ?_ (by decide +kernel) (by decide +kernel) pmd_1 rfl (by decide +kernel)
  · exact chk_in (i := 834) (by decide +kernel)
  · exact chk_in (i := 832) (by decide +kernel)
  · exact fun _ _ => chk_in (i := 833) (by decide +kernel)
  · exact chk_in (i := 44) (by decide +kernel)
theorem mw_130 : mwOK 130 := by
  refine mwOK_mk (y := (⟨"java/lang/Integer", "bitCount", "(I)I"⟩ : MethodName)) (n := 1) rfl ?_ ?_ ?_ ?_ (by decide +kernel) (by decide +kernel) pmd_1 rfl (by decide +kernel)
  · exact chk_in (i := 296) (by decide +kernel)
  · exact chk_in (i := 295) (by decide +kernel)
  · exact fun h1 h2 => absurd h2 (by decide +kernel)
  · exact chk_in (i := 46) (by decide +kernel)
theorem mw_all {k : Nat} (h : k < 131) : mwOK k := by
  match k, h with
  | 0, _ => exact mw_0
  | 1, _ => exact mw_1
  | 2, _ => exact mw_2
  | 3, _ => exact mw_3
  | 4, _ => exact mw_4
  | 5, _ => exact mw_5
  | 6, _ => exact mw_6
  | 7, _ => exact mw_7
  | 8, _ => exact mw_8
  | 9, _ => exact mw_9
  | 10, _ => exact mw_10
  | 11, _ => exact mw_11
  | 12, _ => exact mw_12
  | 13, _ => exact mw_13
  | 14, _ => exact mw_14
  | 15, _ => exact mw_15
  | 16, _ => exact mw_16
  | 17, _ => exact mw_17
  | 18, _ => exact mw_18
  | 19, _ => exact mw_19
  | 20, _ => exact mw_20
  | 21, _ => exact mw_21
  | 22, _ => exact mw_22
  | 23, _ => exact mw_23
  | 24, _ => exact mw_24
  | 25, _ => exact mw_25
  | 26, _ => exact mw_26
  | 27, _ => exact mw_27
  | 28, _ => exact mw_28
  | 29, _ => exact mw_29
  | 30, _ => exact mw_30
  | 31, _ => exact mw_31
  | 32, _ => exact mw_32
  | 33, _ => exact mw_33
  | 34, _ => exact mw_34
  | 35, _ => exact mw_35
  | 36, _ => exact mw_36
  | 37, _ => exact mw_37
  | 38, _ => exact mw_38
  | 39, _ => exact mw_39
  | 40, _ => exact mw_40
  | 41, _ => exact mw_41
  | 42, _ => exact mw_42
  | 43, _ => exact mw_43
  | 44, _ => exact mw_44
  | 45, _ => exact mw_45
  | 46, _ => exact mw_46
  | 47, _ => exact mw_47
  | 48, _ => exact mw_48
  | 49, _ => exact mw_49
  | 50, _ => exact mw_50
  | 51, _ => exact mw_51
  | 52, _ => exact mw_52
  | 53, _ => exact mw_53
  | 54, _ => exact mw_54
  | 55, _ => exact mw_55
  | 56, _ => exact mw_56
  | 57, _ => exact mw_57
  | 58, _ => exact mw_58
  | 59, _ => exact mw_59
  | 60, _ => exact mw_60
  | 61, _ => exact mw_61
  | 62, _ => exact mw_62
  | 63, _ => exact mw_63
  | 64, _ => exact mw_64
  | 65, _ => exact mw_65
  | 66, _ => exact mw_66
  | 67, _ => exact mw_67
  | 68, _ => exact mw_68
  | 69, _ => exact mw_69
  | 70, _ => exact mw_70
  | 71, _ => exact mw_71
  | 72, _ => exact mw_72
  | 73, _ => exact mw_73
  | 74, _ => exact mw_74
  | 75, _ => exact mw_75
  | 76, _ => exact mw_76
  | 77, _ => exact mw_77
  | 78, _ => exact mw_78
  | 79, _ => exact mw_79
  | 80, _ => exact mw_80
  | 81, _ => exact mw_81
  | 82, _ => exact mw_82
  | 83, _ => exact mw_83
  | 84, _ => exact mw_84
  | 85, _ => exact mw_85
  | 86, _ => exact mw_86
  | 87, _ => exact mw_87
  | 88, _ => exact mw_88
  | 89, _ => exact mw_89
  | 90, _ => exact mw_90
  | 91, _ => exact mw_91
  | 92, _ => exact mw_92
  | 93, _ => exact mw_93
  | 94, _ => exact mw_94
  | 95, _ => exact mw_95
  | 96, _ => exact mw_96
  | 97, _ => exact mw_97
  | 98, _ => exact mw_98
  | 99, _ => exact mw_99
  | 100, _ => exact mw_100
  | 101, _ => exact mw_101
  | 102, _ => exact mw_102
  | 103, _ => exact mw_103
  | 104, _ => exact mw_104
  | 105, _ => exact mw_105
  | 106, _ => exact mw_106
  | 107, _ => exact mw_107
  | 108, _ => exact mw_108
  | 109, _ => exact mw_109
  | 110, _ => exact mw_110
  | 111, _ => exact mw_111
  | 112, _ => exact mw_112
  | 113, _ => exact mw_113
  | 114, _ => exact mw_114
  | 115, _ => exact mw_115
  | 116, _ => exact mw_116
  | 117, _ => exact mw_117
  | 118, _ => exact mw_118
  | 119, _ => exact mw_119
  | 120, _ => exact mw_120
  | 121, _ => exact mw_121
  | 122, _ => exact mw_122
  | 123, _ => exact mw_123
  | 124, _ => exact mw_124
  | 125, _ => exact mw_125
  | 126, _ => exact mw_126
  | 127, _ => exact mw_127
  | 128, _ => exact mw_128
  | 129, _ => exact mw_129
  | 130, _ => exact mw_130
  | n + 131, h => omega
def vC (ci : Nat) : vw_C := vwCl.getD ci ("", (fun _ => ("", "", "", false)), 0)
def tyC (ci : Nat) : Nat → FieldType := mvTy.getD ci (fun _ => .int)
def chkF (q : Nat × Nat × Nat × Nat × Nat) : Bool :=
  chk (.fieldLink (ownN q.1) q.2.1 (vC q.2.2.1).1 ((vC q.2.2.1).2.1 q.2.2.2.1).2.1 ((vC q.2.2.1).2.1 q.2.2.2.1).2.2.1) (q.2.2.2.2 + npv) && decide (q.2.2.1 < 6 ∧ q.2.2.2.1 < nfOf q.2.2.1)
theorem chkF_all : mvF.all chkF = true := by decide +kernel
def nestW (q : Nat × Nat × Nat × Bool × Nat) : Cond := .methodLinkNest (ownN q.1) q.2.1 (yOf q.2.2.1) "EvenWords"
def chkC (q : Nat × Nat × Nat × Bool × Nat) : Bool := decide (q.2.2.1 < 132) && (if q.2.2.2.1 then decide (lw_tbl[q.2.2.2.2 + npv]? = some (nestW q)) && isInit q.2.2.1 else chk (.methodLink (ownN q.1) q.2.1 (yOf q.2.2.1)) (q.2.2.2.2 + npv))
theorem chkC_1 : (mvC.take 80).all chkC = true := by decide +kernel
theorem chkC_2 : (mvC.drop 80).all chkC = true := by decide +kernel
theorem chkC_all {q : Nat × Nat × Nat × Bool × Nat} (h : q ∈ mvC) : chkC q = true := by
  rw [← List.take_append_drop 80 mvC] at h
  rcases List.mem_append.mp h with h | h
  · exact List.all_eq_true.mp chkC_1 q h
  · exact List.all_eq_true.mp chkC_2 q h
def chkOb (q : Nat × Nat × Nat) : Bool := chk (.methodLink (ownN q.1) q.2.1 objectInit) (q.2.2 + npv)
theorem chkOb_all : mvOb.all chkOb = true := by decide +kernel
theorem obj_in : (Cond.instanceMethod objectInit) ∈ gT ∧ (Cond.code objectInit ⟨#[0xb1]⟩ 1 none) ∈ gT := ⟨chk_in (i := 16 + npv) (by decide +kernel), chk_in (i := 17 + npv) (by decide +kernel)⟩
def chkN (q : Nat × Nat × Nat × Nat) : Bool := chk (.classLink (ownN q.1) q.2.1 (vC q.2.2.1).1) (q.2.2.2 + npv) && decide (q.2.2.1 < 6)
theorem chkN_all : mvN.all chkN = true := by decide +kernel
theorem mx_in : Lib.Math.max.name = yOf 131 ∧ (Cond.static Lib.Math.max.name) ∈ gT ∧ (Cond.initialized "java/lang/Math") ∈ gT ∧ (Cond.code Lib.Math.max.name Lib.Math.max.code 2 (some .int)) ∈ gT := ⟨rfl, chk_in (i := 398 + npv) (by decide +kernel), chk_in (i := 9 + npv) (by decide +kernel), chk_in (i := 399 + npv) (by decide +kernel)⟩
def chkK (q : Nat × Nat × Int32 × Nat) : Bool := chk (.constant (ownN q.1) q.2.1 q.2.2.1) (q.2.2.2 + npv)
theorem chkK_all : mvK.all chkK = true := by decide +kernel
def chkKl (q : Nat × Nat × Int64 × Nat) : Bool := chk (.constantLong (ownN q.1) q.2.1 q.2.2.1) (q.2.2.2 + npv)
theorem chkKl_all : mvKl.all chkKl = true := by decide +kernel
def sNm (j : Nat) : String := if j = 0 then "AS_A" else "MEANS"
def chkS (q : Nat × Nat × Nat × Nat) : Bool := chk (.fieldLink (ownN q.1) q.2.1 "EvenWords$Forms" (sNm q.2.2.1) "[I") (q.2.2.2 + npv) && decide (q.2.2.1 < 2)
theorem chkS_all : mvS.all chkS = true := by decide +kernel
def chkCl (ci : Nat) : Bool := (u_ws (vC ci).1 (vC ci).2.1 (vC ci).2.2).all (fun w => decide (w ∈ lw_tbl) && goodWord w) && (decide (Cond.instantiable (vC ci).1 (vC ci).2.2 ∈ lw_tbl) && (goodWord (Cond.instantiable (vC ci).1 (vC ci).2.2) && (decide (Cond.initialized (vC ci).1 ∈ lw_tbl) && (goodWord (Cond.initialized (vC ci).1) && (decide ((vC ci).2.2 = nfOf ci))))))
theorem chkCl_0 : chkCl 0 = true := by decide +kernel
theorem chkCl_1 : chkCl 1 = true := by decide +kernel
theorem chkCl_2 : chkCl 2 = true := by decide +kernel
theorem chkCl_3 : chkCl 3 = true := by decide +kernel
theorem chkCl_4 : chkCl 4 = true := by decide +kernel
theorem chkCl_5 : chkCl 5 = true := by decide +kernel
theorem lt6 {P : Nat → Prop} (h0 : P 0) (h1 : P 1) (h2 : P 2) (h3 : P 3) (h4 : P 4) (h5 : P 5) {ci : Nat} (h : ci < 6) : P ci := by
  match ci, h with
  | 0, _ => exact h0
  | 1, _ => exact h1
  | 2, _ => exact h2
  | 3, _ => exact h3
  | 4, _ => exact h4
  | 5, _ => exact h5
  | n + 6, h => omega
theorem cl_ws {ci : Nat} (h : ci < 6) : ∀ w ∈ u_ws (vC ci).1 (vC ci).2.1 (vC ci).2.2, w ∈ gT := by
  have e : chkCl ci = true := lt6 (P := fun ci => chkCl ci = true) chkCl_0 chkCl_1 chkCl_2 chkCl_3 chkCl_4 chkCl_5 h
  simp only [chkCl, Bool.and_eq_true, decide_eq_true_eq, List.all_eq_true] at e
  exact fun w hw => gT_in (e.1 w hw).1 (e.1 w hw).2
theorem cl_inst {ci : Nat} (h : ci < 6) : Cond.instantiable (vC ci).1 (vC ci).2.2 ∈ gT ∧ Cond.initialized (vC ci).1 ∈ gT ∧ (vC ci).2.2 = nfOf ci ∧ vwCl[ci]? = some ((vC ci).1, (vC ci).2.1, (vC ci).2.2) := by
  have e : chkCl ci = true := lt6 (P := fun ci => chkCl ci = true) chkCl_0 chkCl_1 chkCl_2 chkCl_3 chkCl_4 chkCl_5 h
  simp only [chkCl, Bool.and_eq_true, decide_eq_true_eq, List.all_eq_true] at e
  exact ⟨gT_in e.2.1 e.2.2.1, gT_in e.2.2.2.1 e.2.2.2.2.1, e.2.2.2.2.2, lt6 (P := fun ci => vwCl[ci]? = some ((vC ci).1, (vC ci).2.1, (vC ci).2.2)) rfl rfl rfl rfl rfl rfl h⟩
theorem cl_ty {ci : Nat} (h : ci < 6) : ∀ k, k < (vC ci).2.2 → parseFieldDescriptor ((vC ci).2.1 k).2.2.1 = some (tyC ci k) := lt6 (P := fun ci => ∀ k, k < (vC ci).2.2 → parseFieldDescriptor ((vC ci).2.1 k).2.2.1 = some (tyC ci k)) tyX1_ok tyX2_ok tyX3_ok tyX4_ok tyX5_ok tyX6_ok h
theorem cl_nm {ci : Nat} (h : ci < 6) : ∀ a, a < (vC ci).2.2 → ∀ b, b < (vC ci).2.2 → a ≠ b → ((vC ci).2.1 a).2.1 ≠ ((vC ci).2.1 b).2.1 := lt6 (P := fun ci => ∀ a, a < (vC ci).2.2 → ∀ b, b < (vC ci).2.2 → a ≠ b → ((vC ci).2.1 a).2.1 ≠ ((vC ci).2.1 b).2.1) nmX1 nmX2 nmX3 nmX4 nmX5 nmX6 h
def chkT (ci k : Nat) : Bool := decide (((vC ci).2.1 k).1 = (vC ci).1 ∧ ((vC ci).2.1 k).2.2.2 = (ftOf ci k).2 ∧ defaultValue (tyC ci k) = vp_V (dfOf ci) k ∧ (vC ci).1 = ownN ci) && (match (ftOf ci k).1, tyC ci k with
  | 0, .int => true
  | 1, .boolean => true
  | 2, .object _ => true
  | 2, .array _ => true
  | _, _ => false)
theorem chkT_0 : ∀ k, k < nfOf 0 → chkT 0 k = true := by decide +kernel
theorem chkT_1 : ∀ k, k < nfOf 1 → chkT 1 k = true := by decide +kernel
theorem chkT_2 : ∀ k, k < nfOf 2 → chkT 2 k = true := by decide +kernel
theorem chkT_3 : ∀ k, k < nfOf 3 → chkT 3 k = true := by decide +kernel
theorem chkT_4 : ∀ k, k < nfOf 4 → chkT 4 k = true := by decide +kernel
theorem chkT_5 : ∀ k, k < nfOf 5 → chkT 5 k = true := by decide +kernel
theorem chkT_all {ci : Nat} (h : ci < 6) : ∀ k, k < nfOf ci → chkT ci k = true := lt6 (P := fun ci => ∀ k, k < nfOf ci → chkT ci k = true) chkT_0 chkT_1 chkT_2 chkT_3 chkT_4 chkT_5 h
theorem ft_ok {ci k : Nat} (h : ci < 6) (hk : k < nfOf ci) : ((vC ci).2.1 k).1 = (vC ci).1 ∧ ((vC ci).2.1 k).2.2.2 = (ftOf ci k).2 ∧ defaultValue (tyC ci k) = vp_V (dfOf ci) k ∧ (vC ci).1 = ownN ci := by
  have e := chkT_all h k hk
  simp only [chkT, Bool.and_eq_true, decide_eq_true_eq] at e
  exact e.1
/-- what may be put fits and stays as it is -/
theorem put_fits {M ci k : Nat} {v : Value} (h : ci < 6) (hk : k < nfOf ci) (hm : mayPut M ci k v = true) : narrow (tyC ci k) v = v ∧ fits (tyC ci k) v = true := by
  have e := chkT_all h k hk
  simp only [chkT, Bool.and_eq_true] at e
  have e2 := e.2
  simp only [mayPut, Bool.and_eq_true] at hm
  have m1 := hm.1
  generalize (ftOf ci k).1 = z at e2 m1
  generalize tyC ci k = ty at e2 ⊢
  split at m1
  · cases ty <;> first | (exact ⟨rfl, rfl⟩) | (simp at e2)
  · rename_i x
    simp only [Bool.or_eq_true, beq_iff_eq] at m1
    cases ty <;> first | (rcases m1 with rfl | rfl <;> exact ⟨by decide +kernel, by decide +kernel⟩) | (simp at e2)
  · cases ty <;> first | (exact ⟨rfl, rfl⟩) | (simp at e2)
  · cases m1
theorem fl_in {o i ci k : Nat} (h : mvFl o i = some (ci, k)) : ci < 6 ∧ k < nfOf ci ∧ (Cond.fieldLink (ownN o) i (vC ci).1 ((vC ci).2.1 k).2.1 ((vC ci).2.1 k).2.2.1) ∈ gT := by
  simp only [mvFl, Option.map_eq_some_iff] at h
  obtain ⟨q, hq, he⟩ := h
  have h1 := List.find?_some hq
  have h2 := List.all_eq_true.mp chkF_all q (List.mem_of_find?_eq_some hq)
  simp only [Bool.and_eq_true, beq_iff_eq] at h1
  cases he
  simp only [chkF, Bool.and_eq_true, decide_eq_true_eq] at h2
  rw [← h1.1, ← h1.2]
  exact ⟨h2.2.1, h2.2.2, chk_in h2.1⟩
theorem nl_in {o i ci : Nat} (h : mvNl o i = some ci) : ci < 6 ∧ (Cond.classLink (ownN o) i (vC ci).1) ∈ gT := by
  simp only [mvNl, Option.map_eq_some_iff] at h
  obtain ⟨q, hq, he⟩ := h
  have h1 := List.find?_some hq
  have h2 := List.all_eq_true.mp chkN_all q (List.mem_of_find?_eq_some hq)
  simp only [Bool.and_eq_true, beq_iff_eq] at h1
  cases he
  simp only [chkN, Bool.and_eq_true, decide_eq_true_eq] at h2
  rw [← h1.1, ← h1.2]
  exact ⟨h2.2, chk_in h2.1⟩
theorem ki_in {o i : Nat} {v : Int32} (h : mvKi o i = some v) : (Cond.constant (ownN o) i v) ∈ gT := by
  simp only [mvKi, Option.map_eq_some_iff] at h
  obtain ⟨q, hq, he⟩ := h
  have h1 := List.find?_some hq
  have h2 := List.all_eq_true.mp chkK_all q (List.mem_of_find?_eq_some hq)
  simp only [Bool.and_eq_true, beq_iff_eq] at h1
  cases he
  rw [← h1.1, ← h1.2]
  exact chk_in h2
theorem kli_in {o i : Nat} {v : Int64} (h : mvKli o i = some v) : (Cond.constantLong (ownN o) i v) ∈ gT := by
  simp only [mvKli, Option.map_eq_some_iff] at h
  obtain ⟨q, hq, he⟩ := h
  have h1 := List.find?_some hq
  have h2 := List.all_eq_true.mp chkKl_all q (List.mem_of_find?_eq_some hq)
  simp only [Bool.and_eq_true, beq_iff_eq] at h1
  cases he
  rw [← h1.1, ← h1.2]
  exact chk_in h2
theorem sl_in {o i j : Nat} (h : mvSl o i = some j) : j < 2 ∧ (Cond.fieldLink (ownN o) i "EvenWords$Forms" (sNm j) "[I") ∈ gT := by
  simp only [mvSl, Option.map_eq_some_iff] at h
  obtain ⟨q, hq, he⟩ := h
  have h1 := List.find?_some hq
  have h2 := List.all_eq_true.mp chkS_all q (List.mem_of_find?_eq_some hq)
  simp only [Bool.and_eq_true, beq_iff_eq] at h1
  cases he
  simp only [chkS, Bool.and_eq_true, decide_eq_true_eq] at h2
  rw [← h1.1, ← h1.2]
  exact ⟨h2.2, chk_in h2.1⟩
theorem ob_in {o i : Nat} (h : mvObl o i = true) : (Cond.methodLink (ownN o) i objectInit) ∈ gT := by
  simp only [mvObl, List.any_eq_true, Bool.and_eq_true, beq_iff_eq] at h
  obtain ⟨q, hq, h1, h2⟩ := h
  have h3 := List.all_eq_true.mp chkOb_all q hq
  rw [← h1, ← h2]
  exact chk_in h3
/-- a call's link: plain, or of a nest mate (then it is a constructor) -/
theorem cl_in {o i k : Nat} (h : mvCl o i = some k) : ((Cond.methodLink (ownN o) i (yOf k)) ∈ gT ∨ (isInit k = true ∧ ∃ q ∈ mvC, q.2.2.2.1 = true ∧ nestW q = .methodLinkNest (ownN o) i (yOf k) "EvenWords")) := by
  simp only [mvCl, Option.map_eq_some_iff] at h
  obtain ⟨q, hq, he⟩ := h
  have h1 := List.find?_some hq
  have hm := List.mem_of_find?_eq_some hq
  have h2 := chkC_all hm
  simp only [Bool.and_eq_true, beq_iff_eq] at h1
  cases he
  simp only [chkC, Bool.and_eq_true, decide_eq_true_eq] at h2
  by_cases hb : q.2.2.2.1 = true
  · rw [if_pos hb] at h2
    simp only [Bool.and_eq_true, decide_eq_true_eq] at h2
    exact Or.inr ⟨h2.2.2, q, hm, hb, by rw [nestW, h1.1, h1.2]⟩
  · rw [if_neg hb] at h2
    rw [← h1.1, ← h1.2]
    exact Or.inl (chk_in h2.2)
end
section
/-! THE SMALL MACHINE'S MEMORY AS CELLS OF THE HEAP -/
/-- class ids and slots of the classes; the array classes by kind; where the static arrays, the script and the new cells lie -/
abbrev sG : Type := va_G × (Nat → ClassId) × (Nat → Nat)
def ad (G : sG) (i : Nat) : Nat := if i < 3 then G.2.2 i else G.2.2 3 + (i - 3)
def sh (G : sG) (v : Value) : Value := match v with
  | .ref a => .ref (ad G a)
  | v => v
theorem sh_cat (G : sG) (v : Value) : (sh G v).category = v.category := by cases v <;> rfl
theorem sh_int (G : sG) (x : Int32) : sh G (.int x) = .int x := rfl
theorem sh_long (G : sG) (x : Int64) : sh G (.long x) = .long x := rfl
theorem sh_ref (G : sG) (x : Nat) : sh G (.ref x) = .ref (ad G x) := rfl
theorem sh_sum (G : sG) (st : List Value) : ((st.map (sh G)).map fun v => v.category).sum = (st.map fun v => v.category).sum := by
  rw [List.map_map]
  congr 1
  exact List.map_congr_left fun v _ => sh_cat G v
def tysG (G : sG) : List (ClassId × FieldType) := [(G.2.1 6, .int), (G.2.1 7, .boolean), (G.2.1 8, .object "EvenWords$Walk"), (G.2.1 9, .object "EvenWords$Wire")]
def aG (G : sG) : Nat → Prop := fun q => G.2.2 3 ≤ q
def cvE (G : sG) (μ : mM) (i : Nat) : va_E :=
  if kd μ.1 i < 6 then .inr (kd μ.1 i, (List.range (ln μ.1 i)).map (fun k => sh G (μ.2.1 i k)))
  else if kd μ.1 i < 8 then .inl (G.2.1 (kd μ.1 i), ln μ.1 i, .inl (μ.2.2.1 i))
  else .inl (G.2.1 (kd μ.1 i), ln μ.1 i, .inr (.inr (.inr (.inr (fun j => (μ.2.2.2 i j).map (ad G))))))
def wsG (G : sG) (μ : mM) : va_W := (List.range (μ.1.1 - 3)).map (fun j => (G.2.2 3 + j, cvE G μ (j + 3)))
def lyOK (t : mL) : Prop := 3 ≤ t.1 ∧ (∀ i, i < 3 → kd t i = 10) ∧ (∀ i, 3 ≤ i → i < t.1 → kd t i < 10 ∧ (kd t i < 6 → ln t i = nfOf (kd t i))) ∧ ∀ i, t.1 ≤ i → kd t i = 99
theorem wsG_get {G : sG} {μ : mM} {a : Nat} (h3 : 3 ≤ a) (hN : a < μ.1.1) : (wsG G μ)[a - 3]? = some (ad G a, cvE G μ a) := by
  have h1 : a - 3 < μ.1.1 - 3 := by omega
  simp only [wsG, List.getElem?_map, List.getElem?_range h1, Option.map_some, ad, if_neg (show ¬ a < 3 by omega), show a - 3 + 3 = a by omega]
theorem wsG_D (G : sG) (μ : mM) : va_D (aG G) (wsG G μ) := by
  have key : ∀ (k : Nat) (q : Nat × va_E), (wsG G μ)[k]? = some q → q.1 = G.2.2 3 + k := by
    intro k q h
    simp only [wsG, List.getElem?_map, Option.map_eq_some_iff] at h
    obtain ⟨j, hj, e⟩ := h
    have hk : k < (List.range (μ.1.1 - 3)).length := (List.getElem?_eq_some_iff.mp hj).1
    rw [List.length_range] at hk
    rw [List.getElem?_range hk] at hj
    cases hj
    rw [← e]
  refine ⟨fun i j p q hi hj e => ?_, fun k q h => ?_⟩
  · rw [key i p hi, key j q hj] at e
    omega
  · show G.2.2 3 ≤ q.1
    rw [key k q h]
    omega
/-- a cell is written -/
theorem wsG_set {G : sG} {μ μ1 : mM} {a : Nat} (h3 : 3 ≤ a) (hN : a < μ.1.1) (ht : μ1.1.1 = μ.1.1) (ho : ∀ i, i ≠ a → cvE G μ1 i = cvE G μ i) : (wsG G μ).set (a - 3) (ad G a, cvE G μ1 a) = wsG G μ1 := by
  apply List.ext_getElem?
  intro k
  rw [List.getElem?_set]
  have hl : (wsG G μ).length = μ.1.1 - 3 := by simp [wsG]
  by_cases hk : a - 3 = k
  · subst hk
    rw [if_pos rfl, if_pos (by rw [hl]; omega), wsG_get h3 (by rw [ht]; exact hN)]
  · rw [if_neg hk]
    simp only [wsG, List.getElem?_map, ht]
    by_cases h : k < μ.1.1 - 3
    · rw [List.getElem?_range h]
      simp only [Option.map_some]
      rw [ho (k + 3) (by omega)]
    · rw [List.getElem?_eq_none (by simp; omega)]
      rfl
/-- a cell is made -/
theorem wsG_push {G : sG} {μ μ1 : mM} (h3 : 3 ≤ μ.1.1) (ht : μ1.1.1 = μ.1.1 + 1) (ho : ∀ i, i ≠ μ.1.1 → cvE G μ1 i = cvE G μ i) : wsG G μ ++ [(ad G μ.1.1, cvE G μ1 μ.1.1)] = wsG G μ1 := by
  have e : μ1.1.1 - 3 = (μ.1.1 - 3) + 1 := by omega
  simp only [wsG, e, List.range_succ, List.map_append, List.map_cons, List.map_nil]
  congr 1
  · apply List.map_congr_left
    intro j hj
    rw [List.mem_range] at hj
    rw [ho (j + 3) (by omega)]
  · rw [show μ.1.1 - 3 + 3 = μ.1.1 by omega]
    simp only [ad, if_neg (show ¬ μ.1.1 < 3 by omega)]
/-- what isn't written lies outside -/
def rE (G : sG) (μ : mM) (U : State) : Prop :=
  (∀ i, i < 3 → va_T .int (ad G i) (ln μ.1 i) (fun j => .int (μ.2.2.1 i j)) (aG G) U U.heap) ∧
  va_Z "EvenWords$Forms" "AS_A" "[I" (.ref (ad G 0)) (aG G) U U.heap ∧ va_Z "EvenWords$Forms" "MEANS" "[I" (.ref (ad G 1)) (aG G) U U.heap ∧
  va_AO "EvenWords$Walk" U ∧ va_AO "EvenWords$Wire" U ∧ ∀ q ∈ mvC, q.2.2.2.1 = true → va_Nw (nestW q) U
theorem rE.move {G : sG} {μ : mM} {s U : State} {H : Heap} {locs : List Loc} (h : rE G μ s) (hS : va_S (aG G) s.heap H locs) (hU : U.heap = H) (hW : s.WarmedH U.vm) : rE G μ U := by
  obtain ⟨h1, h2, h3, h4, h5, h6⟩ := h
  have hk : ∀ a : Nat, a < s.heap.size → ¬ aG G a → U.heap[a]? = s.heap[a]? := fun a q1 q2 => by rw [hU]; exact hS.2.1 a q1 q2
  refine ⟨fun i hi => ((h1 i hi).kept hk).moved hW.alike, (h2.kept hk).moved hW.alike, (h3.kept hk).moved hW.alike, h4.moved hW.alike, h5.moved hW.alike, fun q hq hn => ?_⟩
  exact va_Nw.warmM hW (h6 q hq hn)
theorem rE.of {G : sG} {μ μ1 : mM} {s : State} (h : rE G μ s) (hr : ∀ i, i < 3 → μ1.2.2.1 i = μ.2.2.1 i ∧ ln μ1.1 i = ln μ.1 i) : rE G μ1 s := by
  refine ⟨fun i hi => ?_, h.2⟩
  rw [(hr i hi).1, (hr i hi).2]
  exact h.1 i hi
/-- the world -/
def wd (G : sG) (μ : mM) (U : State) : Prop := lyOK μ.1 ∧ U.heap.size = G.2.2 3 + (μ.1.1 - 3) ∧ va_P G.1 vwCl (wsG G μ) U.heap ∧ va_K G.1 vwCl (tysG G) U ∧ rE G μ U
/-- what a run keeps: cells and slots only grow, what is only read stays -/
def kept (μ μ1 : mM) : Prop := lyOK μ1.1 ∧ μ.1.1 ≤ μ1.1.1 ∧ μ.1.2.1 ≤ μ1.1.2.1 ∧ ∀ i, i < 3 → μ1.2.2.1 i = μ.2.2.1 i ∧ ln μ1.1 i = ln μ.1 i
theorem kept.rf {μ : mM} (h : lyOK μ.1) : kept μ μ := ⟨h, Nat.le_refl _, Nat.le_refl _, fun _ _ => ⟨rfl, rfl⟩⟩
theorem kept.tr {μ μ1 μ2 : mM} (h : kept μ μ1) (g : kept μ1 μ2) : kept μ μ2 := ⟨g.1, Nat.le_trans h.2.1 g.2.1, Nat.le_trans h.2.2.1 g.2.2.1, fun i hi => ⟨((g.2.2.2 i hi).1).trans (h.2.2.2 i hi).1, ((g.2.2.2 i hi).2).trans (h.2.2.2 i hi).2⟩⟩
theorem lyOK.ro {t : mL} (h : lyOK t) {a : Nat} (hk : kd t a < 10) : 3 ≤ a ∧ a < t.1 := by
  constructor
  · apply Nat.not_lt.mp
    intro q
    have := h.2.1 a q
    omega
  · apply Nat.not_le.mp
    intro q
    have := h.2.2.2 a q
    omega
theorem lyOK.push {N S n c : Nat} {K : Nat → Nat × Nat} (h : lyOK (N, S, K)) (hc : c < 10) (hn : c < 6 → n = nfOf c) (S' : Nat) : lyOK (N + 1, S', up1 K N (c, n)) := by
  obtain ⟨h1, h2, h3, h4⟩ := h
  have e : ∀ i, i ≠ N → kd (N + 1, S', up1 K N (c, n)) i = kd (N, S, K) i ∧ ln (N + 1, S', up1 K N (c, n)) i = ln (N, S, K) i := fun i hi => by simp [kd, ln, up1, hi]
  have e0 : kd (N + 1, S', up1 K N (c, n)) N = c ∧ ln (N + 1, S', up1 K N (c, n)) N = n := by simp [kd, ln, up1]
  have h1' : 3 ≤ N := h1
  refine ⟨Nat.le_succ_of_le h1, fun i hi => ?_, fun i hi hN => ?_, fun i hi => ?_⟩
  · rw [(e i (by omega)).1]; exact h2 i hi
  · by_cases q : i = N
    · subst q
      rw [e0.1, e0.2]
      exact ⟨hc, hn⟩
    · rw [(e i q).1, (e i q).2]
      exact h3 i hi (by have : i < N + 1 := hN; show i < N; omega)
  · have : N + 1 ≤ i := hi
    rw [(e i (by omega)).1]
    exact h4 i (by show N ≤ i; omega)
theorem kept.push {N S n c S' : Nat} {K : Nat → Nat × Nat} {V V' : Nat → Nat → Value} {A A' : Nat → Nat → Int32} {P P' : Nat → Nat → Option Nat} (h : lyOK (N, S, K)) (hc : c < 10) (hn : c < 6 → n = nfOf c) (hS : S ≤ S') (hA : ∀ i, i < 3 → A' i = A i) : kept ((N, S, K), V, A, P) ((N + 1, S', up1 K N (c, n)), V', A', P') := by
  refine ⟨h.push hc hn S', Nat.le_succ N, hS, fun i hi => ⟨hA i hi, ?_⟩⟩
  have : 3 ≤ N := h.1
  have hne : i ≠ N := by omega
  simp [ln, up1, hne]
theorem next_kept {M pc pc1 : Nat} {i : Instr} {L st L1 st1 : List Value} {μ μ1 : mM} (h : mNext M i pc L st μ = some (pc1, L1, st1, μ1)) (hl : lyOK μ.1) : kept μ μ1 := by
  obtain ⟨⟨N, S, K⟩, V, A, P⟩ := μ
  have rf : kept ((N, S, K), V, A, P) ((N, S, K), V, A, P) := kept.rf hl
  have h3 : 3 ≤ N := hl.1
  cases i
  case iastore =>
    simp only [mNext] at h
    split at h
    · split at h
      · rename_i a _ hc
        cases h
        refine ⟨hl, Nat.le_refl _, Nat.le_refl _, fun j hj => ⟨?_, rfl⟩⟩
        have h6 : kd (N, S, K) a = 6 := hc.1
        have := (hl.ro (a := a) (by rw [h6]; omega)).1
        show up1 A a _ j = A j
        simp [up1, show j ≠ a by omega]
      · cases h
    · cases h
  case bastore =>
    simp only [mNext] at h
    split at h
    · split at h
      · rename_i a _ hc
        cases h
        refine ⟨hl, Nat.le_refl _, Nat.le_refl _, fun j hj => ⟨?_, rfl⟩⟩
        have h6 : kd (N, S, K) a = 7 := hc.1
        have := (hl.ro (a := a) (by rw [h6]; omega)).1
        show up1 A a _ j = A j
        simp [up1, show j ≠ a by omega]
      · cases h
    · cases h
  case putfield j =>
    simp only [mNext] at h
    split at h
    · split at h
      · cases h
        exact ⟨hl, Nat.le_refl _, Nat.le_refl _, fun _ _ => ⟨rfl, rfl⟩⟩
      · cases h
    · cases h
  case aastore =>
    simp only [mNext] at h
    split at h
    · split at h
      · cases h
        exact ⟨hl, Nat.le_refl _, Nat.le_refl _, fun _ _ => ⟨rfl, rfl⟩⟩
      · cases h
    · cases h
  case newarray t =>
    simp only [mNext] at h
    split at h
    · split at h
      · cases h
      · cases h
        exact kept.push hl (by omega) (by omega) (Nat.le_add_right _ _) (fun j hj => by simp [up1, show j ≠ N by omega])
    · split at h
      · cases h
      · cases h
        exact kept.push hl (by omega) (by omega) (Nat.le_add_right _ _) (fun j hj => by simp [up1, show j ≠ N by omega])
    · cases h
  case anewarray j =>
    simp only [mNext] at h
    split at h
    · split at h
      · cases h
      · rename_i hc
        cases h
        exact kept.push hl (by omega) (by omega) (Nat.le_add_right _ _) (fun _ _ => rfl)
    · cases h
  case new j =>
    simp only [mNext] at h
    split at h
    · split at h
      · cases h
        exact kept.push hl (by omega) (fun _ => rfl) (Nat.le_add_right _ _) (fun _ _ => rfl)
      · cases h
    · cases h
  all_goals (simp only [mNext] at h; (try repeat' (split at h)); all_goals (first | (cases h; exact rf) | (cases h; done)))
theorem xR_kept {R : Nat → List Value → mM → Option Value → mM → Prop} (hR : ∀ k a μ v μ1, R k a μ v μ1 → lyOK μ.1 → kept μ μ1) {M : Nat} : ∀ (n pc : Nat) (L st : List Value) (μ : mM) (v : Option Value) (μ' : mM), xR R M n pc L st μ v μ' → lyOK μ.1 → kept μ μ' := by
  intro n
  induction n with
  | zero => intro pc L st μ v μ' h; exact absurd h (by simp [xR])
  | succ n ih =>
    intro pc L st μ v μ' h hl
    obtain ⟨i, len, -, -, h⟩ := h
    rcases h with ⟨-, h⟩ | ⟨pc1, L1, st1, μ1, h, h2⟩ | ⟨k, a, r, v1, μ1, -, -, h, h2⟩
    · rw [h]; exact kept.rf hl
    · have k1 := next_kept h hl
      exact k1.tr (ih _ _ _ _ _ _ h2 k1.1)
    · have k1 := hR _ _ _ _ _ h hl
      exact k1.tr (ih _ _ _ _ _ _ h2 k1.1)
theorem run_kept : ∀ (d k : Nat) (a : List Value) (μ : mM) (v : Option Value) (μ1 : mM), run d k a μ v μ1 → lyOK μ.1 → kept μ μ1 := by
  intro d
  induction d with
  | zero => intro k a μ v μ1 h; exact absurd h (by simp [run])
  | succ d ih =>
    intro k a μ v μ1 h hl
    obtain ⟨-, -, n, h⟩ := h
    exact xR_kept ih _ _ _ _ _ _ _ h hl
/-- the locals -/
def lr (G : sG) (nL : Nat) (L : List Value) (ls : Array Slot) : Prop := L.length = nL ∧ ls.size = nL ∧ lv_wf ls ∧ ∀ (i : Nat) (v : Value), L[i]? = some v → v ≠ .null → ls[i]? = some (.val (sh G v))
def prs (G : sG) (L : List Value) : List (Nat × Value) := (List.range L.length).filterMap (fun i => match L[i]? with
  | some Value.null => none
  | some v => some (i, sh G v)
  | none => none)
theorem prs_mem {G : sG} {L : List Value} {q : Nat × Value} : q ∈ prs G L ↔ ∃ v, L[q.1]? = some v ∧ v ≠ .null ∧ q.2 = sh G v := by
  simp only [prs, List.mem_filterMap, List.mem_range]
  constructor
  · rintro ⟨i, hi, h⟩
    split at h
    · cases h
    · rename_i v hv hne
      cases h
      exact ⟨v, hne, hv, rfl⟩
    · cases h
  · rintro ⟨v, h1, h2, h3⟩
    refine ⟨q.1, (List.getElem?_eq_some_iff.mp h1).1, ?_⟩
    rw [h1]
    cases v <;> first | (exact absurd rfl h2) | (show some (q.1, _) = some q; rw [← h3])
theorem lr.has {G : sG} {nL : Nat} {L : List Value} {ls : Array Slot} (h : lr G nL L ls) : lv_has ls nL (prs G L) := by
  refine ⟨h.2.1, h.2.2.1, fun q hq => ?_⟩
  obtain ⟨v, h1, h2, h3⟩ := prs_mem.mp hq
  rw [h3]
  exact h.2.2.2 _ _ h1 h2
theorem stOK_lt {L : List Value} {i : Nat} (h : stOK L i = true) : i < L.length := by
  simp only [stOK, Bool.and_eq_true, decide_eq_true_eq] at h
  exact h.1
theorem stOK_cat {L : List Value} {i j : Nat} {v : Value} (h : stOK L i = true) (hj : j + 1 = i) (hv : L[j]? = some v) : v.category = 1 := by
  subst hj
  simp only [stOK, Bool.and_eq_true, decide_eq_true_eq, List.getD_eq_getElem?_getD] at h
  rw [hv] at h
  exact h.2
theorem lr.set {G : sG} {nL i : Nat} {L : List Value} {ls ls' : Array Slot} {v : Value} (h : lr G nL L ls) (hi : stOK L i = true) (h' : lv_has ls' nL ((i, sh G v) :: (prs G L).filter (fun q => !(q.1 == i) && !(q.1 + 1 == i && q.2.category == 2)))) : lr G nL (L.set i v) ls' := by
  refine ⟨by rw [List.length_set]; exact h.1, h'.1, h'.2.1, fun j w hj hw => ?_⟩
  rw [List.getElem?_set] at hj
  by_cases hij : i = j
  · subst hij
    rw [if_pos rfl, if_pos (stOK_lt hi)] at hj
    cases hj
    exact h'.2.2 (i, sh G v) List.mem_cons_self
  · rw [if_neg hij] at hj
    refine h'.2.2 (j, sh G w) (List.mem_cons_of_mem _ (List.mem_filter.mpr ⟨prs_mem.mpr ⟨w, hj, hw, rfl⟩, ?_⟩))
    have h1 : (j == i) = false := by simp; omega
    simp only [h1, Bool.not_false, Bool.true_and]
    by_cases h2 : j + 1 = i
    · have := stOK_cat hi h2 hj
      rw [sh_cat, this]
      simp
    · have h3 : (j + 1 == i) = false := by simp; omega
      rw [h3]; rfl
theorem lr.set2 {G : sG} {nL i : Nat} {L : List Value} {ls ls' : Array Slot} {v : Value} (h : lr G nL L ls) (hi : stOK L i = true) (h' : lv_has ls' nL ((i, sh G v) :: (prs G L).filter (fun q => !(q.1 == i) && (!(q.1 == i + 1) && !(q.1 + 1 == i && q.2.category == 2))))) : lr G nL ((L.set i v).set (i + 1) .null) ls' := by
  refine ⟨by rw [List.length_set, List.length_set]; exact h.1, h'.1, h'.2.1, fun j w hj hw => ?_⟩
  rw [List.getElem?_set] at hj
  by_cases hij1 : i + 1 = j
  · subst hij1
    rw [if_pos rfl] at hj
    split at hj
    · cases hj; exact absurd rfl hw
    · cases hj
  rw [if_neg hij1, List.getElem?_set] at hj
  by_cases hij : i = j
  · subst hij
    rw [if_pos rfl, if_pos (stOK_lt hi)] at hj
    cases hj
    exact h'.2.2 (i, sh G v) List.mem_cons_self
  · rw [if_neg hij] at hj
    refine h'.2.2 (j, sh G w) (List.mem_cons_of_mem _ (List.mem_filter.mpr ⟨prs_mem.mpr ⟨w, hj, hw, rfl⟩, ?_⟩))
    have h1 : (j == i) = false := by simp; omega
    have h1' : (j == i + 1) = false := by simp; omega
    simp only [h1, h1', Bool.not_false, Bool.true_and]
    by_cases h2 : j + 1 = i
    · have := stOK_cat hi h2 hj
      rw [sh_cat, this]
      simp
    · have h3 : (j + 1 == i) = false := by simp; omega
      rw [h3]; rfl
theorem lr.at {G : sG} {nL i : Nat} {L : List Value} {ls : Array Slot} {v : Value} (h : lr G nL L ls) (hi : L[i]? = some v) (hv : v ≠ .null) : ls[i]? = some (.val (sh G v)) := h.2.2.2 _ _ hi hv
theorem inB_vp {i : Int32} {n : Nat} (h : inB i n = true) : vp_in i n := vp_in_iff.mpr (by simpa [inB] using h)
end
section
/-! writing and making cells, with the heap's size -/
theorem put_ref {ty : FieldType} {a b : Nat} (h : fits ty (.ref a) = true) : narrow ty (.ref b) = .ref b ∧ fits ty (.ref b) = true := by
  cases ty <;> first | exact ⟨rfl, rfl⟩ | (simp [fits] at h)
section SP
variable {p : Program} {l : Launch} {e : Env} {R : Room} {s : State} {m : MethodId} {args : Array Value} {below : List Frame} {meth : Method} {c : Code} {H : Heap} {locs : List Loc} {cells slots : Nat} {Q : State → Prop}
variable {cc : ByteArray} {pc : Nat} {ls : Array Slot} {rest : List Value} {G : sG} {ws : va_W} {a : Nat}
theorem sp_put {o j ci k q0 : Nat} {fs : List Value} {v : Value} (hx : p.tables.exec = Jvm.exec) (hb : c.code = cc) (hts : ∀ w ∈ gT, w.before args s = true) (hown : s.vm.findClass (ownN o) = some m.cls) (hK : va_K G.1 vwCl (tysG G) s) (hP : va_P G.1 vwCl ws H) (hD : va_D (aG G) ws) (hS0 : va_S (aG G) s.heap H locs) (he : ws[q0]? = some (a, .inr (ci, fs))) (g1 : ci < 6) (g2 : k < nfOf ci) (g3 : (Cond.fieldLink (ownN o) j (vC ci).1 ((vC ci).2.1 k).2.1 ((vC ci).2.1 k).2.2.1) ∈ gT) (hl : k < fs.length) (hfit : narrow (tyC ci k) v = v ∧ fits (tyC ci k) v = true) (hfin : (ftOf ci k).2 = true → meth.name = "<init>" ∧ o = ci) (hd : decode cc pc = .ok (.putfield j, 3))
    (kk : ∀ (H1 : Heap) (locs1 : List Loc), va_P G.1 vwCl (ws.set q0 (a, .inr (ci, fs.set k v))) H1 → H1.size = H.size → va_S (aG G) s.heap H1 locs1 → W p l e R s m args below meth c H1 locs1 cells slots Q (F0 m (pc + 3) ls rest)) : W p l e R s m args below meth c H locs cells slots Q (F0 m pc ls (v :: .ref a :: rest)) := by
  have hn2 : k < (vC ci).2.2 := by rw [(cl_inst g1).2.2.1]; exact g2
  have hap := va_apart (own := ownN o) hts (cl_ws g1) (tyC ci) (cl_ty g1) (cl_nm g1) hK (cl_inst g1).2.2.2
  obtain ⟨r, h1, cell, q1, q2, q3, q4⟩ := hP q0 _ he
  have hr := Option.some.inj (h1.symm.trans (cl_inst g1).2.2.2)
  subst hr
  obtain ⟨hSl, hfc, kC, hkC, hkind⟩ := hK.1 ci _ (cl_inst g1).2.2.2
  obtain ⟨cf, kf, fi, f, hi, hsl⟩ := hSl k hn2
  obtain ⟨t1, t2, -, t4⟩ := ft_ok g1 g2
  have hst := (u_facts hfc hkC (u_lays hts (cl_ws g1) hn2) hi).1
  have hi' : s.fieldFound? (vC ci).1 ((vC ci).2.1 k).2.1 ((vC ci).2.1 k).2.2.1 = some (cf, kf, fi, f) := by rw [← t1]; exact hi
  have hslot : f.slot < cell.slots.size := by rw [hsl]; exact k2_hasslot (q4 k hn2)
  have done : ∀ H' : Heap, H'[a]? = some (cell.setSlot f.slot v) → H'.size = H.size → (∀ q, q ≠ a → H'[q]? = H[q]?) → W p l e R s m args below meth c H' (locs ++ [⟨a, f.slot⟩]) cells slots Q (F0 m (pc + 3) ls rest) := by
    intro H' e1 e2 e3
    rw [hsl] at e1 ⊢
    exact kk H' _ (hP.set hD he ⟨_, h1, t_OB.to (V := updV (vp_V fs) k v) ⟨_, e1, q2, q3, t_set q4 hap hn2 v⟩ (fun j _ => vp_updV_set hl v j)⟩ e3) e2 (hS0.put e2 e3 (hD.2 q0 _ he))
  have hlay := hts _ (cl_ws g1 _ (u_in_lay hn2))
  unfold u_lay at hlay
  rw [t2] at hlay
  cases hb9 : (ftOf ci k).2
  · rw [if_neg (by rw [hb9]; decide)] at hlay
    exact W.putK (g := F0 m pc ls (v :: .ref a :: rest)) hx hb (f := f) ⟨hown, hts _ g3, ⟨_, _, _, hi'⟩, hst⟩ (by rw [q2]; exact u_store hfc hkC hkind hlay hi (cl_ty g1 k hn2) hfit.1 hfit.2) q1 q3 hslot rfl rfl hd done
  · rw [if_pos hb9] at hlay
    obtain ⟨f1, f2⟩ := hfin hb9
    have hcf : m.cls = cf := by
      obtain ⟨_, _, c', _, _, _, -, -, hf', -, -, -, hown2, -⟩ := Cond.laysFinal_spec hlay
      have e1 : c' = cf := by have := hi.symm.trans hf'; simp at this; exact this.1.symm
      rw [t1, t4, ← f2] at hown2
      rw [← e1]
      exact Option.some.inj (hown.symm.trans hown2)
    exact W.putFinK (g := F0 m pc ls (v :: .ref a :: rest)) hx hb hown (hts _ g3) hi' hst hcf f1 (by rw [q2]; exact u_fits hfc hkC hkind (Or.inr hlay) hi (cl_ty g1 k hn2) hfit.1 hfit.2) q1 q3 hslot rfl rfl hd done
theorem sp_iast {q0 cA : Nat} {n : Nat} {f : Nat → Int32} {i x : Int32} (hx : p.tables.exec = Jvm.exec) (hb : c.code = cc) (hK : ArrOfT s cA .int) (hP : va_P G.1 vwCl ws H) (hD : va_D (aG G) ws) (hS : va_S (aG G) s.heap H locs) (ha : ws[q0]? = some (a, .inl (cA, n, .inl f))) (hin : vp_in i n) (hd : decode cc pc = .ok (.iastore, 1))
    (kk : ∀ (H1 : Heap) (locs1 : List Loc), va_P G.1 vwCl (ws.set q0 (a, .inl (cA, n, .inl (upd f i.toNatClampNeg x)))) H1 → H1.size = H.size → va_S (aG G) s.heap H1 locs1 → W p l e R s m args below meth c H1 locs1 cells slots Q (F0 m (pc + 1) ls rest)) : W p l e R s m args below meth c H locs cells slots Q (F0 m pc ls (.int x :: .int i :: .ref a :: rest)) := by
  refine W.iast (g := F0 m pc ls (.int x :: .int i :: .ref a :: rest)) hx hb (hP q0 _ ha) (hK n (fun j => .int (f j))) (fun q => by cases q) (by show ¬ (i < 0 ∨ (arrV _ _ _).slots.size ≤ _); rw [arrV_size]; exact hin) rfl rfl hd fun H1 e1 z oq => ?_
  refine kk H1 _ (hP.set hD ha ?_ oq) z (hS.put z oq (hD.2 q0 _ ha))
  show H1[a]? = some (arrV cA n (fun j => .int (upd f i.toNatClampNeg x j)))
  rw [e1]
  show some ((arrV cA n (fun j => .int (f j))).setSlot _ _) = _
  rw [arrV_store]
  congr 2
  funext q
  by_cases hq : q = i.toNatClampNeg <;> simp [updV, upd, hq]
theorem sp_zast {q0 cA : Nat} {n : Nat} {f : Nat → Int32} {i x : Int32} (hx : p.tables.exec = Jvm.exec) (hb : c.code = cc) (hK : ArrOfT s cA .boolean) (hP : va_P G.1 vwCl ws H) (hD : va_D (aG G) ws) (hS : va_S (aG G) s.heap H locs) (ha : ws[q0]? = some (a, .inl (cA, n, .inl f))) (hin : vp_in i n) (h01 : x = 0 ∨ x = 1) (hd : decode cc pc = .ok (.bastore, 1))
    (kk : ∀ (H1 : Heap) (locs1 : List Loc), va_P G.1 vwCl (ws.set q0 (a, .inl (cA, n, .inl (upd f i.toNatClampNeg x)))) H1 → H1.size = H.size → va_S (aG G) s.heap H1 locs1 → W p l e R s m args below meth c H1 locs1 cells slots Q (F0 m (pc + 1) ls rest)) : W p l e R s m args below meth c H locs cells slots Q (F0 m pc ls (.int x :: .int i :: .ref a :: rest)) := by
  have hnar : narrow .boolean (.int x) = .int x := by rcases h01 with rfl | rfl <;> rfl
  refine W.zast (g := F0 m pc ls (.int x :: .int i :: .ref a :: rest)) hx hb (hP q0 _ ha) (hK n (fun j => .int (f j))) (fun q => by cases q) (by show ¬ (i < 0 ∨ (arrV _ _ _).slots.size ≤ _); rw [arrV_size]; exact hin) rfl rfl hd fun H1 e1 z oq => ?_
  refine kk H1 _ (hP.set hD ha ?_ oq) z (hS.put z oq (hD.2 q0 _ ha))
  show H1[a]? = some (arrV cA n (fun j => .int (upd f i.toNatClampNeg x j)))
  rw [e1, hnar]
  show some ((arrV cA n (fun j => .int (f j))).setSlot _ _) = _
  rw [arrV_store]
  congr 2
  funext q
  by_cases hq : q = i.toNatClampNeg <;> simp [updV, upd, hq]
theorem sp_aast {q0 qk ci cA v : Nat} {n : Nat} {C : String} {vs : List Value} {f : Nat → Option Nat} {i : Int32} (hx : p.tables.exec = Jvm.exec) (hb : c.code = cc) (hK : va_K G.1 vwCl (tysG G) s) (hA : ArrOfT s cA (.object C) ∧ va_RA s cA (.object C)) (g1 : ci < 6) (hC : (vC ci).1 = C) (hP : va_P G.1 vwCl ws H) (hD : va_D (aG G) ws) (hS : va_S (aG G) s.heap H locs) (ha : ws[q0]? = some (a, .inl (cA, n, .inr (.inr (.inr (.inr f)))))) (hv : ws[qk]? = some (v, .inr (ci, vs))) (hin : vp_in i n) (hd : decode cc pc = .ok (.aastore, 1))
    (kk : ∀ (H1 : Heap) (locs1 : List Loc), va_P G.1 vwCl (ws.set q0 (a, .inl (cA, n, .inr (.inr (.inr (.inr (up1 f i.toNatClampNeg (some v)))))))) H1 → H1.size = H.size → va_S (aG G) s.heap H1 locs1 → W p l e R s m args below meth c H1 locs1 cells slots Q (F0 m (pc + 1) ls rest)) : W p l e R s m args below meth c H locs cells slots Q (F0 m pc ls (.ref v :: .int i :: .ref a :: rest)) := by
  have hlt : i.toNatClampNeg < n := Nat.not_le.mp fun q => hin (Or.inr q)
  have h0 : ¬ i < 0 := fun q => hin (Or.inl q)
  obtain ⟨r', hr', cellV, u1, u2, u3, -⟩ := hP qk _ hv
  have hcls := (hK.1 ci _ (cl_inst g1).2.2.2).2
  obtain ⟨kA, comp, k1, k2, k3, -⟩ := hA.2
  rw [← hC] at k3
  have hcomp : comp = G.1.1 ci := Option.some.inj (k3.symm.trans hcls.1)
  subst hcomp
  obtain ⟨kC, hkC, -⟩ := hcls.2
  refine W.aast (g := F0 m pc ls (.ref v :: .int i :: .ref a :: rest)) hx hb (hP q0 _ ha) (fun q h => by cases h) (fun h => by cases h) k1 k2 rfl hkC ⟨h0, by show _ < (arrV _ _ _).slots.size; rw [arrV_size]; exact hlt⟩ u1 (fun q h => by rw [u3] at h; cases h) (by rw [u2]; exact hkC) (by rw [u2]; exact va_assign hcls) rfl rfl hd fun H1 e1 z oq => ?_
  refine kk H1 _ (hP.set hD ha ?_ oq) z (hS.put z oq (hD.2 q0 _ ha))
  show H1[a]? = some (arrV cA n (fun j => va_rf (up1 f i.toNatClampNeg (some v) j)))
  rw [e1]
  show some ((arrV cA n (fun j => va_rf (f j))).setSlot _ _) = _
  rw [arrV_store]
  congr 2
  funext q
  by_cases hq : q = i.toNatClampNeg <;> simp [updV, up1, va_rf, hq]
/-- a new cell, behind all others -/
theorem sp_push {H1 : Heap} {q : Nat} {E : va_E} (hP : va_P G.1 vwCl ws H) (hS : va_S (aG G) s.heap H locs) (hq : H.size = q) (hz : H1.size = q + 1) (ho : ∀ x, x < q → H1[x]? = H[x]?) (hE : va_at G.1 vwCl (q, E) H1) : va_P G.1 vwCl (ws ++ [(q, E)]) H1 ∧ va_S (aG G) s.heap H1 locs := by
  subst hq
  have hk : ∀ (k : Nat) (x : Nat × va_E), ws[k]? = some x → H1[x.1]? = H[x.1]? := fun k x hx => ho x.1 ((hP k x hx).lt)
  refine ⟨(hP.kept hk).app (fun k x hx => ?_), Nat.le_trans hS.1 (by omega), fun x h1 h2 => (ho x (Nat.lt_of_lt_of_le h1 hS.1)).trans (hS.2.1 x h1 h2), hS.2.2⟩
  have hz : k < 1 := (List.getElem?_eq_some_iff.mp hx).1
  rw [show k = 0 by omega] at hx
  cases hx
  exact hE
theorem sp_newa {at9 : ArrayType} {ty : FieldType} {cA : Nat} {n : Int32} {N' : Nat} {a0 : vp_A} (hx : p.tables.exec = Jvm.exec) (hb : c.code = cc) (hts : ∀ w ∈ gT, w.before args s = true) (hw : (Cond.arrayClass ty) ∈ gT) (hty : newarray.typeOf at9 = ty) (hcA : s.vm.findClass ("[" ++ ty.toString) = some cA) (hP : va_P G.1 vwCl ws H) (hS : va_S (aG G) s.heap H locs) (ha : ∀ cA : ClassId, vp_cell cA a0 = arrV cA N' (fun _ => defaultValue ty)) (hn : ¬ n < 0) (hN : n.toNatClampNeg = N') (hbytes : N' * componentBytes ty ≤ 536870912) (hcells : cells + 1 ≤ R.cells) (hslots : slots + N' ≤ R.slots) (hd : decode cc pc = .ok (.newarray at9, 2))
    (kk : ∀ H1 : Heap, va_P G.1 vwCl (ws ++ [(H.size, .inl (cA, a0))]) H1 → H1.size = H.size + 1 → va_S (aG G) s.heap H1 locs → W p l e R s m args below meth c H1 locs (cells + 1) (slots + N') Q (F0 m (pc + 2) ls (.ref H.size :: rest))) : W p l e R s m args below meth c H locs cells slots Q (F0 m pc ls (.int n :: rest)) := by
  subst hty
  refine va_newaK (g := F0 m pc ls (.int n :: rest)) hx hb (hts _ hw) rfl hd rfl hn hN hbytes hcells hslots rfl fun H1 cA' e1 z1 o1 hAr hNm => ?_
  have hc : cA' = cA := Option.some.inj (hNm.symm.trans hcA)
  subst hc
  obtain ⟨r1, r2⟩ := sp_push (E := .inl (cA', a0)) hP hS rfl z1 o1 (by show H1[H.size]? = some (vp_cell _ _); rw [ha]; exact e1)
  exact kk H1 r1 z1 r2
theorem sp_newq {o j ci cA : Nat} {C : String} {n : Int32} {N' : Nat} (hx : p.tables.exec = Jvm.exec) (hb : c.code = cc) (hts : ∀ w ∈ gT, w.before args s = true) (hown : s.vm.findClass (ownN o) = some m.cls) (hcl : (Cond.classLink (ownN o) j (vC ci).1) ∈ gT) (hC : (vC ci).1 = C) (hAO : va_AO C s) (hRA : va_RA s cA (.object C)) (hP : va_P G.1 vwCl ws H) (hS : va_S (aG G) s.heap H locs) (hn : ¬ n < 0) (hN : n.toNatClampNeg = N') (hbytes : N' * 4 ≤ 536870912) (hcells : cells + 1 ≤ R.cells) (hslots : slots + N' ≤ R.slots) (hd : decode cc pc = .ok (.anewarray j, 3))
    (kk : ∀ H1 : Heap, va_P G.1 vwCl (ws ++ [(H.size, .inl (cA, N', .inr (.inr (.inr (.inr (fun _ => none))))))]) H1 → H1.size = H.size + 1 → va_S (aG G) s.heap H1 locs → W p l e R s m args below meth c H1 locs (cells + 1) (slots + N') Q (F0 m (pc + 3) ls (.ref H.size :: rest))) : W p l e R s m args below meth c H locs cells slots Q (F0 m pc ls (.int n :: rest)) := by
  subst hN
  rw [hC] at hcl
  refine W.anew (g := F0 m pc ls (.int n :: rest)) hx hb hown (hts _ hcl) (va_AO.use hAO) rfl hd rfl hn hbytes hcells hslots fun cA' kA comp f1 f2 f3 f4 => ?_
  obtain ⟨_, _, -, -, -, h4⟩ := hRA
  have hc : cA' = cA := Option.some.inj (f1.symm.trans h4)
  subst hc
  generalize hH1 : H.push ({ cls := cA', slots := Array.replicate n.toNatClampNeg .null, vm := .none } : Cell) = H1
  have z1 : H1.size = H.size + 1 := by rw [← hH1, Array.size_push]
  have e1 : H1[H.size]? = some (arrV cA' n.toNatClampNeg (fun _ => .null)) := by rw [← hH1, Array.getElem?_push_size, ← arrV_new]
  have o1 : ∀ q : Nat, q < H.size → H1[q]? = H[q]? := fun q hq => by rw [← hH1, Array.getElem?_push, if_neg (Nat.ne_of_lt hq)]
  obtain ⟨r1, r2⟩ := sp_push (E := .inl (cA', n.toNatClampNeg, .inr (.inr (.inr (.inr (fun _ => none)))))) hP hS rfl z1 o1 (by show H1[H.size]? = some (vp_cell _ _); rw [vp_cell_q]; exact e1)
  exact kk H1 r1 z1 r2
theorem sp_new {o j ci : Nat} (hx : p.tables.exec = Jvm.exec) (hb : c.code = cc) (hts : ∀ w ∈ gT, w.before args s = true) (hown : s.vm.findClass (ownN o) = some m.cls) (g1 : ci < 6) (hcl : (Cond.classLink (ownN o) j (vC ci).1) ∈ gT) (hK : va_K G.1 vwCl (tysG G) s) (hP : va_P G.1 vwCl ws H) (hS : va_S (aG G) s.heap H locs) (hcells : cells + 1 ≤ R.cells) (hslots : slots + nfOf ci ≤ R.slots) (hd : decode cc pc = .ok (.new j, 3))
    (kk : ∀ H1 : Heap, va_P G.1 vwCl (ws ++ [(H.size, .inr (ci, dfOf ci))]) H1 → H1.size = H.size + 1 → va_S (aG G) s.heap H1 locs → W p l e R s m args below meth c H1 locs (cells + 1) (slots + nfOf ci) Q (F0 m (pc + 3) ls (.ref H.size :: rest))) : W p l e R s m args below meth c H locs cells slots Q (F0 m pc ls rest) := by
  obtain ⟨w1, w2, w3, w4⟩ := cl_inst g1
  have hKn := hK.1 ci _ w4
  rw [← w3] at hslots
  refine W.newcK (g := F0 m pc ls rest) hx hb hown (hts _ hcl) (hts _ w1) (hts _ w2) rfl hd hcells hslots hKn.2.1 rfl fun H1 kC hkC e1 z1 o1 => ?_
  obtain ⟨r1, r2⟩ := sp_push (E := .inr (ci, dfOf ci)) hP hS rfl z1 o1 ⟨_, w4, (u_born (tyC ci) hts (cl_ws g1) hKn hkC e1 (cl_ty g1)).to (fun q hq => (ft_ok g1 (by rw [← w3]; exact hq)).2.2.1)⟩
  rw [w3]
  exact kk H1 r1 z1 r2
end SP
end
section
/-! ONE STEP OF THE SMALL MACHINE IS A STEP OF THE MACHINE -/
def Iv (G : sG) (s : State) (μ : mM) (H : Heap) (locs : List Loc) : Prop := lyOK μ.1 ∧ H.size = G.2.2 3 + (μ.1.1 - 3) ∧ va_P G.1 vwCl (wsG G μ) H ∧ va_S (aG G) s.heap H locs ∧ rE G μ s
theorem ad_lo (G : sG) {i : Nat} (h : i < 3) : ad G i = G.2.2 i := if_pos h
theorem ad_hi (G : sG) {i : Nat} (h : 3 ≤ i) : ad G i = G.2.2 3 + (i - 3) := if_neg (by omega)
section XS
variable {p : Program} {l : Launch} {e : Env} {R : Room} {s : State} {m : MethodId} {args : Array Value} {below : List Frame} {meth : Method} {c : Code} {Q : State → Prop} {G : sG} {M : Nat}
/-- what is fixed while a method runs -/
def fixd (p : Program) (R : Room) (s : State) (m : MethodId) (args : Array Value) (meth : Method) (c : Code) (G : sG) (M : Nat) : Prop :=
  p.tables.exec = Jvm.exec ∧ c.code = bOf M ∧ c.maxLocals = mlOf M ∧ s.vm.findClass (ownN (oOf M)) = some m.cls ∧ (∀ w ∈ gT, w.before args s = true) ∧ (isInit M = true → meth.name = "<init>") ∧ va_K G.1 vwCl (tysG G) s ∧ G.2.2 3 ≤ s.heap.size ∧ 1 ≤ R.frames ∧ 60 ≤ R.locals
theorem cvE_obj {G : sG} {μ : mM} {a ci : Nat} (hk : kd μ.1 a = ci) (h : ci < 6) (hl : lyOK μ.1) : cvE G μ a = .inr (ci, (List.range (nfOf ci)).map (fun k => sh G (μ.2.1 a k))) := by
  have h1 := hl.ro (a := a) (by omega)
  have h2 := (hl.2.2.1 a h1.1 h1.2).2 (by omega)
  subst hk
  simp only [cvE, if_pos h, h2]
theorem cvE_arr {G : sG} {μ : mM} {a ci : Nat} (hk : kd μ.1 a = ci) (h : ci = 6 ∨ ci = 7) : cvE G μ a = .inl (G.2.1 ci, ln μ.1 a, .inl (μ.2.2.1 a)) := by
  simp only [cvE, hk]
  rw [if_neg (by omega), if_pos (by omega)]
theorem cvE_arq {G : sG} {μ : mM} {a ci : Nat} (hk : kd μ.1 a = ci) (h : ci = 8 ∨ ci = 9) : cvE G μ a = .inl (G.2.1 ci, ln μ.1 a, .inr (.inr (.inr (.inr (fun j => (μ.2.2.2 a j).map (ad G)))))) := by
  simp only [cvE, hk]
  rw [if_neg (by omega), if_neg (by omega)]
theorem vw_at {ci : Nat} (h : ci < 6) : vwCl[ci]? = some ((vC ci).1, (vC ci).2.1, (vC ci).2.2) := (cl_inst h).2.2.2
theorem df_map (G : sG) {ci : Nat} (h : ci < 6) : (List.range (nfOf ci)).map (fun k => sh G (rw' (dfOf ci) k)) = dfOf ci := lt6 (P := fun ci => (List.range (nfOf ci)).map (fun k => sh G (rw' (dfOf ci) k)) = dfOf ci) rfl rfl rfl rfl rfl rfl h
theorem arr_in : (Cond.arrayClass .int) ∈ gT ∧ (Cond.arrayClass .boolean) ∈ gT := ⟨chk_in (i := 52 + npv) (by decide +kernel), chk_in (i := 86 + npv) (by decide +kernel)⟩
theorem rf_map (G : sG) (o : Option Nat) : va_rf (o.map (ad G)) = sh G (va_rf o) := by cases o <;> rfl
theorem xs {i : Instr} {len pc pc1 cells slots : Nat} {L st L1 st1 : List Value} {μ μ1 : mM} {H : Heap} {locs : List Loc} {ls : Array Slot} (F : fixd p R s m args meth c G M) (hn : mNext M i pc L st μ = some (pc1, L1, st1, μ1)) (hd : decode (bOf M) pc = .ok (i, len)) (hl : lenOK i len) (hI : Iv G s μ H locs) (hL : lr G (mlOf M) L ls) (hc : cells + (μ1.1.1 - μ.1.1) ≤ R.cells) (hs : slots + (μ1.1.2.1 - μ.1.2.1) ≤ R.slots)
    (kk : ∀ (H1 : Heap) (locs1 : List Loc) (ls1 : Array Slot) (c1 s1 : Nat), Iv G s μ1 H1 locs1 → lr G (mlOf M) L1 ls1 → c1 = cells + (μ1.1.1 - μ.1.1) → s1 = slots + (μ1.1.2.1 - μ.1.2.1) → W p l e R s m args below meth c H1 locs1 c1 s1 Q (F0 m pc1 ls1 (st1.map (sh G)))) :
    W p l e R s m args below meth c H locs cells slots Q (F0 m pc ls (st.map (sh G))) := by
  obtain ⟨hx, hb, hml, hown, hts, hinit, hK, hA, hRf, hRl⟩ := F
  have hIv := hI
  obtain ⟨hly, hsz, hP, hS, hE⟩ := hI
  have hAq : ∀ q, s.heap.size ≤ q → aG G q := fun q h => Nat.le_trans hA h
  have hD := wsG_D G μ
  cases i
  case iconst z =>
    cases hl; simp only [mNext] at hn; cases hn
    exact lv_iconst hx hb hd rfl (kk H locs ls cells slots hIv hL (by omega) (by omega))
  case bipush z =>
    cases hl; simp only [mNext] at hn; cases hn
    exact lv_bipush hx hb hd rfl (kk H locs ls cells slots hIv hL (by omega) (by omega))
  case sipush z =>
    cases hl; simp only [mNext] at hn; cases hn
    exact lv_sipush hx hb hd rfl (kk H locs ls cells slots hIv hL (by omega) (by omega))
  case lconst z =>
    cases hl; simp only [mNext] at hn; cases hn
    exact lv_lconst hx hb hd rfl (kk H locs ls cells slots hIv hL (by omega) (by omega))
  case ldc j =>
    cases hl; simp only [mNext] at hn
    split at hn
    · rename_i v hv
      cases hn
      exact lv_ldc hx hb hown (hts _ (ki_in hv)) hd (kk H locs ls cells slots hIv hL (by omega) (by omega))
    · cases hn
  case ldc_w j =>
    cases hl; simp only [mNext] at hn
    split at hn
    · rename_i v hv
      cases hn
      exact lv_ldcw hx hb hown (hts _ (ki_in hv)) hd (kk H locs ls cells slots hIv hL (by omega) (by omega))
    · cases hn
  case ldc2_w j =>
    cases hl; simp only [mNext] at hn
    split at hn
    · rename_i v hv
      cases hn
      exact lv_ldc2 hx hb hown (hts _ (kli_in hv)) hd (kk H locs ls cells slots hIv hL (by omega) (by omega))
    · cases hn
  case iload_n k =>
    cases hl; simp only [mNext] at hn
    split at hn
    · rename_i x hv
      cases hn
      exact lv_iload_n hx hb hd rfl (hL.at hv (by simp)) (kk H locs ls cells slots hIv hL (by omega) (by omega))
    · cases hn
  case iload k =>
    cases hl; simp only [mNext] at hn
    split at hn
    · rename_i x hv
      cases hn
      exact lv_iload hx hb hd (hL.at hv (by simp)) (kk H locs ls cells slots hIv hL (by omega) (by omega))
    · cases hn
  case aload_n k =>
    cases hl; simp only [mNext] at hn
    split at hn
    · rename_i x hv
      cases hn
      exact lv_aload_n hx hb hd rfl (hL.at hv (by simp)) (kk H locs ls cells slots hIv hL (by omega) (by omega))
    · cases hn
  case aload k =>
    cases hl; simp only [mNext] at hn
    split at hn
    · rename_i x hv
      cases hn
      exact lv_aload hx hb hd (hL.at hv (by simp)) (kk H locs ls cells slots hIv hL (by omega) (by omega))
    · cases hn
  case lload_n k =>
    cases hl; simp only [mNext] at hn
    split at hn
    · rename_i x hv
      cases hn
      exact lv_lload_n hx hb hd rfl (hL.at hv (by simp)) (kk H locs ls cells slots hIv hL (by omega) (by omega))
    · cases hn
  case lload k =>
    cases hl; simp only [mNext] at hn
    split at hn
    · rename_i x hv
      cases hn
      exact lv_lload hx hb hd (hL.at hv (by simp)) (kk H locs ls cells slots hIv hL (by omega) (by omega))
    · cases hn
  case istore_n k =>
    cases hl; simp only [mNext] at hn
    split at hn
    · split at hn
      · rename_i x r ho
        cases hn
        exact lv_istore_n hx hb hd rfl hL.has (by rw [← hL.1]; exact stOK_lt ho) rfl (fun ls' h' => kk H locs ls' cells slots hIv (hL.set ho h') (by omega) (by omega))
      · cases hn
    · cases hn
  case istore k =>
    cases hl; simp only [mNext] at hn
    split at hn
    · split at hn
      · rename_i x r ho
        cases hn
        exact lv_istore hx hb hd hL.has (by rw [← hL.1]; exact stOK_lt ho) rfl (fun ls' h' => kk H locs ls' cells slots hIv (hL.set ho h') (by omega) (by omega))
      · cases hn
    · cases hn
  case astore_n k =>
    cases hl; simp only [mNext] at hn
    split at hn
    · split at hn
      · rename_i x r ho
        cases hn
        exact lv_astore_n hx hb hd rfl hL.has (by rw [← hL.1]; exact stOK_lt ho) rfl (fun ls' h' => kk H locs ls' cells slots hIv (hL.set ho h') (by omega) (by omega))
      · cases hn
    · cases hn
  case astore k =>
    cases hl; simp only [mNext] at hn
    split at hn
    · split at hn
      · rename_i x r ho
        cases hn
        exact lv_astore hx hb hd hL.has (by rw [← hL.1]; exact stOK_lt ho) rfl (fun ls' h' => kk H locs ls' cells slots hIv (hL.set ho h') (by omega) (by omega))
      · cases hn
    · cases hn
  case lstore_n k =>
    cases hl; simp only [mNext] at hn
    split at hn
    · split at hn
      · rename_i x r ho
        cases hn
        exact lv_lstore_n hx hb hd rfl hL.has (by rw [← hL.1]; exact ho.2.1) rfl (fun ls' h' => kk H locs ls' cells slots hIv (hL.set2 ho.1 h') (by omega) (by omega))
      · cases hn
    · cases hn
  case lstore k =>
    cases hl; simp only [mNext] at hn
    split at hn
    · split at hn
      · rename_i x r ho
        cases hn
        exact lv_lstore hx hb hd hL.has (by rw [← hL.1]; exact ho.2.1) rfl (fun ls' h' => kk H locs ls' cells slots hIv (hL.set2 ho.1 h') (by omega) (by omega))
      · cases hn
    · cases hn
  case iinc k z =>
    cases hl; simp only [mNext] at hn
    split at hn
    · split at hn
      · rename_i x hv ho
        cases hn
        obtain ⟨n, hn1⟩ := List.getElem?_of_mem (prs_mem (G := G) (q := (k, .int x)).mpr ⟨_, hv, by simp, rfl⟩)
        exact lv_iinc hx hb hd hL.has hn1 rfl (by rw [← hL.1]; exact stOK_lt ho) rfl (fun ls' h' => kk H locs ls' cells slots hIv (hL.set (v := .int _) ho h') (by omega) (by omega))
      · cases hn
    · cases hn
  case iadd =>
    cases hl; simp only [mNext] at hn
    split at hn
    · cases hn; exact lv_iadd hx hb hd (kk H locs ls cells slots hIv hL (by omega) (by omega))
    · cases hn
  case isub =>
    cases hl; simp only [mNext] at hn
    split at hn
    · cases hn; exact lv_isub hx hb hd (kk H locs ls cells slots hIv hL (by omega) (by omega))
    · cases hn
  case imul =>
    cases hl; simp only [mNext] at hn
    split at hn
    · cases hn; exact lv_imul hx hb hd (kk H locs ls cells slots hIv hL (by omega) (by omega))
    · cases hn
  case idiv =>
    cases hl; simp only [mNext] at hn
    split at hn
    · split at hn
      · cases hn
      · rename_i h0; cases hn; exact lv_idiv hx hb hd h0 (kk H locs ls cells slots hIv hL (by omega) (by omega))
    · cases hn
  case irem =>
    cases hl; simp only [mNext] at hn
    split at hn
    · split at hn
      · cases hn
      · rename_i h0; cases hn; exact lv_irem hx hb hd h0 (kk H locs ls cells slots hIv hL (by omega) (by omega))
    · cases hn
  case ineg =>
    cases hl; simp only [mNext] at hn
    split at hn
    · cases hn; exact lv_ineg hx hb hd (kk H locs ls cells slots hIv hL (by omega) (by omega))
    · cases hn
  case iand =>
    cases hl; simp only [mNext] at hn
    split at hn
    · cases hn; exact lv_iand hx hb hd (kk H locs ls cells slots hIv hL (by omega) (by omega))
    · cases hn
  case ior =>
    cases hl; simp only [mNext] at hn
    split at hn
    · cases hn; exact lv_ior hx hb hd (kk H locs ls cells slots hIv hL (by omega) (by omega))
    · cases hn
  case ixor =>
    cases hl; simp only [mNext] at hn
    split at hn
    · cases hn; exact lv_ixor hx hb hd (kk H locs ls cells slots hIv hL (by omega) (by omega))
    · cases hn
  case ishl =>
    cases hl; simp only [mNext] at hn
    split at hn
    · cases hn; exact lv_ishl hx hb hd (kk H locs ls cells slots hIv hL (by omega) (by omega))
    · cases hn
  case ishr =>
    cases hl; simp only [mNext] at hn
    split at hn
    · cases hn; exact lv_ishr hx hb hd (kk H locs ls cells slots hIv hL (by omega) (by omega))
    · cases hn
  case iushr =>
    cases hl; simp only [mNext] at hn
    split at hn
    · cases hn; exact lv_iushr hx hb hd rfl (kk H locs ls cells slots hIv hL (by omega) (by omega))
    · cases hn
  case i2l =>
    cases hl; simp only [mNext] at hn
    split at hn
    · cases hn; exact lv_i2l hx hb hd rfl (kk H locs ls cells slots hIv hL (by omega) (by omega))
    · cases hn
  case l2i =>
    cases hl; simp only [mNext] at hn
    split at hn
    · cases hn; exact lv_l2i hx hb hd rfl (kk H locs ls cells slots hIv hL (by omega) (by omega))
    · cases hn
  case ladd =>
    cases hl; simp only [mNext] at hn
    split at hn
    · cases hn; exact lv_ladd hx hb hd (kk H locs ls cells slots hIv hL (by omega) (by omega))
    · cases hn
  case lmul =>
    cases hl; simp only [mNext] at hn
    split at hn
    · cases hn; exact lv_lmul hx hb hd (kk H locs ls cells slots hIv hL (by omega) (by omega))
    · cases hn
  case lcmp =>
    cases hl; simp only [mNext] at hn
    split at hn
    · cases hn; exact W.lcmp hx hb hd (kk H locs ls cells slots hIv hL (by omega) (by omega))
    · cases hn
  case dup =>
    cases hl; simp only [mNext] at hn
    split at hn
    · split at hn
      · rename_i h0; cases hn; exact lv_dup hx hb hd (by rw [sh_cat]; exact h0) (kk H locs ls cells slots hIv hL (by omega) (by omega))
      · cases hn
    · cases hn
  case dup2 =>
    cases hl; simp only [mNext] at hn
    split at hn
    · split at hn
      · rename_i h0; cases hn; exact lv_dup2_11 hx hb hd (by rw [sh_cat]; exact h0.1) (by rw [sh_cat]; exact h0.2) (kk H locs ls cells slots hIv hL (by omega) (by omega))
      · cases hn
    · cases hn
  case pop =>
    cases hl; simp only [mNext] at hn
    split at hn
    · split at hn
      · rename_i h0; cases hn; exact lv_pop hx hb hd (by rw [sh_cat]; exact h0) (kk H locs ls cells slots hIv hL (by omega) (by omega))
      · cases hn
    · cases hn
  case goto off =>
    cases hl; simp only [mNext] at hn
    split at hn
    · rename_i h0; cases hn
      exact lv_goto hx hb hd (by simp only [tgt]; omega) (kk H locs ls cells slots hIv hL (by omega) (by omega))
    · cases hn
  case ifnull off =>
    cases hl; simp only [mNext] at hn
    split at hn
    · cases hn; exact lv_ifnull hx hb hd (kk H locs ls cells slots hIv hL (by omega) (by omega))
    · cases hn
  case ifnonnull off =>
    cases hl; simp only [mNext] at hn
    split at hn
    · split at hn
      · rename_i h0; cases hn; exact lv_ifnonnull hx hb hd (by simp only [tgt]; omega) (kk H locs ls cells slots hIv hL (by omega) (by omega))
      · cases hn
    · cases hn
  case if_icmp cd off =>
    cases hl; simp only [mNext] at hn
    split at hn
    · split at hn
      · rename_i y x r h0
        cases hn
        have ht : (pc : Int) + off = (tgt pc off : Int) := by simp only [tgt]; omega
        have k0 := kk H locs ls cells slots hIv hL (by omega) (by omega)
        cases cd
        · exact lv_icmp_eq hx hb hd ht (fun q => by simpa [mCmp, q] using k0) (fun q => by simpa [mCmp, q] using k0)
        · exact lv_icmp_ne hx hb hd ht (fun q => by simpa [mCmp, q] using k0) (fun q => by simpa [mCmp, q] using k0)
        · exact lv_icmp_lt hx hb hd ht (fun q => by simpa [mCmp, q] using k0) (fun q => by simpa [mCmp, q] using k0)
        · exact lv_icmp_ge hx hb hd ht (fun q => by simpa [mCmp, q] using k0) (fun q => by simpa [mCmp, q] using k0)
        · exact lv_icmp_gt hx hb hd ht (fun q => by simpa [mCmp, q] using k0) (fun q => by simpa [mCmp, q] using k0)
        · exact lv_icmp_le hx hb hd ht (fun q => by simpa [mCmp, q] using k0) (fun q => by simpa [mCmp, q] using k0)
      · cases hn
    · cases hn
  case ifCond cd off =>
    cases hl; simp only [mNext] at hn
    split at hn
    · split at hn
      · rename_i x r h0
        cases hn
        have ht : (pc : Int) + off = (tgt pc off : Int) := by simp only [tgt]; omega
        have k0 := kk H locs ls cells slots hIv hL (by omega) (by omega)
        cases cd
        · exact lv_if_eq hx hb hd ht (fun q => by simpa [mCmp, q] using k0) (fun q => by simpa [mCmp, q] using k0)
        · exact lv_if_ne hx hb hd ht (fun q => by simpa [mCmp, q] using k0) (fun q => by simpa [mCmp, q] using k0)
        · exact lv_if_lt hx hb hd ht (fun q => by simpa [mCmp, q] using k0) (fun q => by simpa [mCmp, q] using k0)
        · exact lv_if_ge hx hb hd ht (fun q => by simpa [mCmp, q] using k0) (fun q => by simpa [mCmp, q] using k0)
        · exact lv_if_gt hx hb hd ht (fun q => by simpa [mCmp, q] using k0) (fun q => by simpa [mCmp, q] using k0)
        · exact lv_if_le hx hb hd ht (fun q => by simpa [mCmp, q] using k0) (fun q => by simpa [mCmp, q] using k0)
      · cases hn
    · cases hn
  case tableswitch df lo hi offs =>
    simp only [mNext] at hn
    split at hn
    · split at hn
      · split at hn
        · rename_i h1 h0; cases hn
          exact lv_tableOut hx hb hd h1 (by simp only [tgt]; omega) (kk H locs ls cells slots hIv hL (by omega) (by omega))
        · cases hn
      · split at hn
        · split at hn
          · rename_i h1 _ off ho h0; cases hn
            exact lv_tableIn hx hb hd (fun q => h1 (Or.inl q)) (fun q => h1 (Or.inr q)) ho (by simp only [tgt]; omega) (kk H locs ls cells slots hIv hL (by omega) (by omega))
          · cases hn
        · cases hn
    · cases hn
  case invokespecial j =>
    cases hl; simp only [mNext] at hn
    split at hn
    · rename_i hj
      split at hn
      · rename_i a r
        split at hn
        · rename_i h0
          cases hn
          exact W.objInit (g := F0 m pc ls (.ref (ad G a) :: st1.map (sh G))) hx hb hown (hts _ (ob_in hj)) (hts _ obj_in.1) (hts _ obj_in.2) rfl (hL.2.1.trans hml.symm) rfl hd hRf (by show 2 * 0 + _ + 12 ≤ _; rw [sh_sum]; omega) (kk H locs ls cells slots hIv hL (by omega) (by omega))
        · cases hn
      · cases hn
    · cases hn
  case invokestatic j =>
    cases hl; simp only [mNext] at hn
    split at hn
    · rename_i hj
      split at hn
      · rename_i y x r
        split at hn
        · rename_i h0
          cases hn
          obtain ⟨f1, f2, f3, f4⟩ := mx_in
          have hlk : (Cond.methodLink (ownN (oOf M)) j Lib.Math.max.name).before args s = true := by
            rcases cl_in hj with q | q
            · rw [f1]; exact hts _ q
            · exact absurd q.1 (by decide +kernel)
          exact va_mmax hx hb (hml.trans hL.2.1.symm) hown hlk (hts _ f2) (hts _ f3) (hts _ f4) hRf (by rw [sh_sum]; omega) (by omega) (by omega) hd (kk H locs ls cells slots hIv hL (by omega) (by omega))
        · cases hn
      · cases hn
    · cases hn
  case getfield j =>
    cases hl; simp only [mNext] at hn
    split at hn
    · rename_i ci k a r hf
      split at hn
      · rename_i h0
        cases hn
        obtain ⟨g1, g2, g3⟩ := fl_in hf
        have hro := hly.ro (a := a) (by rw [h0.1]; omega)
        have hw := wsG_get (G := G) hro.1 hro.2
        rw [cvE_obj h0.1 g1 hly] at hw
        have hn2 : k < (vC ci).2.2 := by rw [(cl_inst g1).2.2.1]; exact g2
        exact va_get (ci := ci) (C := (vC ci).1) (T := (vC ci).2.1) (N := (vC ci).2.2) hx hb hts (cl_ws g1) hown hK hP (a - 3) hw (vw_at g1) k hn2 (hts _ g3) (fun x hx' => by rw [← (ft_ok g1 g2).1]; exact hx') (v := sh G (μ.2.1 a k)) (by rw [List.getElem?_map, List.getElem?_range g2]; rfl) hd (kk H locs ls cells slots hIv hL (by omega) (by omega))
      · cases hn
    · cases hn
  case putfield j =>
    cases hl; simp only [mNext] at hn
    split at hn
    · rename_i ci k v a r hf
      split at hn
      · rename_i h0
        cases hn
        obtain ⟨g1, g2, g3⟩ := fl_in hf
        have hro := hly.ro (a := a) (by rw [h0.1]; omega)
        have hw := wsG_get (G := G) hro.1 hro.2
        rw [cvE_obj h0.1 g1 hly] at hw
        have hn2 : k < (vC ci).2.2 := by rw [(cl_inst g1).2.2.1]; exact g2
        have hm := put_fits g1 g2 h0.2.2
        have hm' : narrow (tyC ci k) (sh G v) = sh G v ∧ fits (tyC ci k) (sh G v) = true := by
          cases v <;> first | exact hm | skip
          exact put_ref hm.2
        generalize hμ1 : ((μ.1, up1 μ.2.1 a (up1 (μ.2.1 a) k v), μ.2.2.1, μ.2.2.2) : mM) = μ1 at kk hc hs
        have e1 : μ1.1 = μ.1 := by rw [← hμ1]
        have hset : (wsG G μ).set (a - 3) (ad G a, .inr (ci, ((List.range (nfOf ci)).map (fun k => sh G (μ.2.1 a k))).set k (sh G v))) = wsG G μ1 := by
          have := wsG_set (G := G) (μ := μ) (μ1 := μ1) hro.1 hro.2 (by rw [e1]) (fun i hi => by
            rw [← hμ1]; simp only [cvE, up1, if_neg hi])
          rw [← this]
          congr 2
          rw [cvE_obj (by rw [e1]; exact h0.1) g1 (by rw [e1]; exact hly)]
          congr 2
          apply List.ext_getElem?
          intro q
          rw [List.getElem?_set, List.getElem?_map, List.getElem?_map, List.length_map, List.length_range]
          rw [← hμ1]
          by_cases hq : q < nfOf ci
          · rw [List.getElem?_range hq]
            by_cases hkq : k = q
            · subst hkq; simp [up1, hq]
            · simp [up1, hkq, Ne.symm hkq]
          · rw [List.getElem?_eq_none (by simp; omega)]
            have : ¬ k = q := by omega
            simp [this]
        have hE1 : rE G μ1 s := by rw [← hμ1]; exact hE.of (fun _ _ => ⟨rfl, rfl⟩)
        exact sp_put hx hb hts hown hK hP hD hS hw g1 g2 g3 (by simp; exact g2) hm' (fun h9 => by
          have hmp := h0.2.2
          simp only [mayPut, h9, Bool.and_eq_true, Bool.not_true, Bool.false_or, beq_iff_eq] at hmp
          exact ⟨hinit hmp.2.1, hmp.2.2⟩) hd (fun H1 locs1 hP1 hz1 hS1 => by
            rw [hset] at hP1
            exact kk H1 locs1 ls cells slots ⟨by rw [e1]; exact hly, by rw [hz1, e1]; exact hsz, hP1, hS1, hE1⟩ hL (by rw [e1]; omega) (by rw [e1]; omega))
      · cases hn
    · cases hn
  case getstatic j =>
    cases hl; simp only [mNext] at hn
    split at hn
    · rename_i a hf
      cases hn
      obtain ⟨g1, g2⟩ := sl_in hf
      have hz : va_Z "EvenWords$Forms" (sNm a) "[I" (.ref (ad G a)) (aG G) s s.heap := by
        match a, g1 with
        | 0, _ => exact hE.2.1
        | 1, _ => exact hE.2.2.1
        | n + 2, g1 => omega
      exact va_gets hx hb hz hS hown (hts _ g2) (fun _ h9 => h9) hd (kk H locs ls cells slots hIv hL (by omega) (by omega))
    · cases hn
  case iaload =>
    cases hl; simp only [mNext] at hn
    split at hn
    · rename_i i a r
      split at hn
      · rename_i h0
        cases hn
        rcases h0.1 with h6 | h10
        · have hro := hly.ro (a := a) (by rw [h6]; omega)
          have hw := wsG_get (G := G) hro.1 hro.2
          rw [cvE_arr h6 (Or.inl rfl)] at hw
          exact va_iald hx hb hK hP (a - 3) 0 hw rfl (inB_vp h0.2) hd (kk H locs ls cells slots hIv hL (by omega) (by omega))
        · have h3 : a < 3 := by
            apply Nat.not_le.mp
            intro q
            by_cases hN : a < μ.1.1
            · exact absurd (hly.2.2.1 a q hN).1 (by rw [h10]; exact Nat.lt_irrefl 10)
            · exact absurd (hly.2.2.2 a (Nat.le_of_not_lt hN)) (by rw [h10]; decide)
          exact va_ti hx hb (hE.1 a h3) hS (inB_vp h0.2) rfl hd (kk H locs ls cells slots hIv hL (by omega) (by omega))
      · cases hn
    · cases hn
  case baload =>
    cases hl; simp only [mNext] at hn
    split at hn
    · rename_i i a r
      split at hn
      · rename_i h0
        cases hn
        have hro := hly.ro (a := a) (by rw [h0.1]; omega)
        have hw := wsG_get (G := G) hro.1 hro.2
        rw [cvE_arr h0.1 (Or.inr rfl)] at hw
        exact va_zald hx hb hK hP (a - 3) 1 hw rfl (inB_vp h0.2) hd (kk H locs ls cells slots hIv hL (by omega) (by omega))
      · cases hn
    · cases hn
  case aaload =>
    cases hl; simp only [mNext] at hn
    split at hn
    · rename_i i a r
      split at hn
      · rename_i h0
        cases hn
        have hro := hly.ro (a := a) (by omega)
        have hw := wsG_get (G := G) hro.1 hro.2
        rw [cvE_arq rfl h0.1] at hw
        have k0 := kk H locs ls cells slots hIv hL (by omega) (by omega)
        rw [List.map_cons, ← rf_map] at k0
        rcases h0.1 with h8 | h9
        · rw [h8] at hw
          exact va_aldq hx hb hK hP (a - 3) 2 hw rfl (inB_vp h0.2) hd k0
        · rw [h9] at hw
          exact va_aldq hx hb hK hP (a - 3) 3 hw rfl (inB_vp h0.2) hd k0
      · cases hn
    · cases hn
  case iastore =>
    cases hl; simp only [mNext] at hn
    split at hn
    · rename_i x i a r
      split at hn
      · rename_i h0
        cases hn
        have hro := hly.ro (a := a) (by rw [h0.1]; omega)
        have hw := wsG_get (G := G) hro.1 hro.2
        rw [cvE_arr h0.1 (Or.inl rfl)] at hw
        generalize hμ1 : ((μ.1, μ.2.1, up1 μ.2.2.1 a (upd (μ.2.2.1 a) i.toNatClampNeg x), μ.2.2.2) : mM) = μ1 at kk hc hs
        have e1 : μ1.1 = μ.1 := by rw [← hμ1]
        have hset := wsG_set (G := G) (μ := μ) (μ1 := μ1) hro.1 hro.2 (by rw [e1]) (fun j hj => by rw [← hμ1]; simp only [cvE, up1, if_neg hj])
        rw [cvE_arr (by rw [e1]; exact h0.1) (Or.inl rfl)] at hset
        have hE1 : rE G μ1 s := by rw [← hμ1]; exact hE.of (fun j hj => ⟨by show up1 _ a _ j = _; simp [up1, show j ≠ a by omega], rfl⟩)
        exact sp_iast hx hb (hK.2 0 _ rfl).1 hP hD hS hw (inB_vp h0.2) hd (fun H1 locs1 hP1 hz1 hS1 => kk H1 locs1 ls cells slots ⟨by rw [e1]; exact hly, by rw [hz1, e1]; exact hsz, by rw [← hset, e1, ← hμ1]; simpa [up1] using hP1, hS1, hE1⟩ hL (by rw [e1]; omega) (by rw [e1]; omega))
      · cases hn
    · cases hn
  case bastore =>
    cases hl; simp only [mNext] at hn
    split at hn
    · rename_i x i a r
      split at hn
      · rename_i h0
        cases hn
        have hro := hly.ro (a := a) (by rw [h0.1]; omega)
        have hw := wsG_get (G := G) hro.1 hro.2
        rw [cvE_arr h0.1 (Or.inr rfl)] at hw
        generalize hμ1 : ((μ.1, μ.2.1, up1 μ.2.2.1 a (upd (μ.2.2.1 a) i.toNatClampNeg x), μ.2.2.2) : mM) = μ1 at kk hc hs
        have e1 : μ1.1 = μ.1 := by rw [← hμ1]
        have hset := wsG_set (G := G) (μ := μ) (μ1 := μ1) hro.1 hro.2 (by rw [e1]) (fun j hj => by rw [← hμ1]; simp only [cvE, up1, if_neg hj])
        rw [cvE_arr (by rw [e1]; exact h0.1) (Or.inr rfl)] at hset
        have hE1 : rE G μ1 s := by rw [← hμ1]; exact hE.of (fun j hj => ⟨by show up1 _ a _ j = _; simp [up1, show j ≠ a by omega], rfl⟩)
        exact sp_zast hx hb (hK.2 1 _ rfl).1 hP hD hS hw (inB_vp h0.2.1) h0.2.2 hd (fun H1 locs1 hP1 hz1 hS1 => kk H1 locs1 ls cells slots ⟨by rw [e1]; exact hly, by rw [hz1, e1]; exact hsz, by rw [← hset, e1, ← hμ1]; simpa [up1] using hP1, hS1, hE1⟩ hL (by rw [e1]; omega) (by rw [e1]; omega))
      · cases hn
    · cases hn
  case aastore =>
    cases hl; simp only [mNext] at hn
    split at hn
    · rename_i v i a r
      split at hn
      · rename_i h0
        cases hn
        have hro := hly.ro (a := a) (by omega)
        have hw := wsG_get (G := G) hro.1 hro.2
        have h89 : kd μ.1 a = 8 ∨ kd μ.1 a = 9 := by omega
        rw [cvE_arq rfl h89] at hw
        have hrv := hly.ro (a := v) (by omega)
        have hwv := wsG_get (G := G) hrv.1 hrv.2
        rw [cvE_obj rfl (by omega) hly] at hwv
        generalize hμ1 : ((μ.1, μ.2.1, μ.2.2.1, up1 μ.2.2.2 a (up1 (μ.2.2.2 a) i.toNatClampNeg (some v))) : mM) = μ1 at kk hc hs
        have e1 : μ1.1 = μ.1 := by rw [← hμ1]
        have hset := wsG_set (G := G) (μ := μ) (μ1 := μ1) hro.1 hro.2 (by rw [e1]) (fun j hj => by rw [← hμ1]; simp only [cvE, up1, if_neg hj])
        rw [cvE_arq (by rw [e1]) h89] at hset
        have hE1 : rE G μ1 s := by rw [← hμ1]; exact hE.of (fun _ _ => ⟨rfl, rfl⟩)
        have hfun : (fun j => (μ1.2.2.2 a j).map (ad G)) = up1 (fun j => (μ.2.2.2 a j).map (ad G)) i.toNatClampNeg (some (ad G v)) := by
          funext j
          rw [← hμ1]
          by_cases hj : j = i.toNatClampNeg <;> simp [up1, hj]
        rw [hfun, e1] at hset
        have fin : ∀ (H1 : Heap) (locs1 : List Loc), va_P G.1 vwCl ((wsG G μ).set (a - 3) (ad G a, .inl (G.2.1 (kd μ.1 a), ln μ.1 a, .inr (.inr (.inr (.inr (up1 (fun j => (μ.2.2.2 a j).map (ad G)) i.toNatClampNeg (some (ad G v))))))))) H1 → H1.size = H.size → va_S (aG G) s.heap H1 locs1 → W p l e R s m args below meth c H1 locs1 cells slots Q (F0 m (pc + 1) ls (st1.map (sh G))) := fun H1 locs1 hP1 hz1 hS1 => kk H1 locs1 ls cells slots ⟨by rw [e1]; exact hly, by rw [hz1, e1]; exact hsz, by rw [← hset]; exact hP1, hS1, hE1⟩ hL (by rw [e1]; omega) (by rw [e1]; omega)
        rcases h0.1 with ⟨h8, h2⟩ | ⟨h9, h3⟩
        · rw [h8] at hw fin
          rw [h2] at hwv
          exact sp_aast hx hb hK (hK.2 2 _ rfl) (by omega) rfl hP hD hS hw hwv (inB_vp h0.2) hd fin
        · rw [h9] at hw fin
          rw [h3] at hwv
          exact sp_aast hx hb hK (hK.2 3 _ rfl) (by omega) rfl hP hD hS hw hwv (inB_vp h0.2) hd fin
      · cases hn
    · cases hn
  case arraylength =>
    cases hl; simp only [mNext] at hn
    split at hn
    · rename_i a r
      split at hn
      · rename_i h0
        cases hn
        have k0 := kk H locs ls cells slots hIv hL (by omega) (by omega)
        by_cases h10 : kd μ.1 a = 10
        · have h3 : a < 3 := by
            apply Nat.not_le.mp
            intro q
            by_cases hN : a < μ.1.1
            · exact absurd (hly.2.2.1 a q hN).1 (by rw [h10]; exact Nat.lt_irrefl 10)
            · exact absurd (hly.2.2.2 a (Nat.le_of_not_lt hN)) (by rw [h10]; decide)
          obtain ⟨cell, t1, t2, t3, t4, t5, t6, t7⟩ := hE.1 a h3
          exact W.alen (n := Int32.ofNat (ln μ.1 a)) hx hb (by rw [hS.2.1 _ (Array.getElem?_eq_some_iff.mp t1).1 t7]; exact t1) t2 t5 rfl rfl hd k0
        · have hro := hly.ro (a := a) (by omega)
          have hw := wsG_get (G := G) hro.1 hro.2
          have h69 : kd μ.1 a = 6 ∨ kd μ.1 a = 7 ∨ kd μ.1 a = 8 ∨ kd μ.1 a = 9 := by omega
          rcases h69 with h | h | h | h
          · rw [cvE_arr h (Or.inl rfl)] at hw
            exact va_alen hx hb hK hP (a - 3) 0 hw rfl rfl hd k0
          · rw [cvE_arr h (Or.inr rfl)] at hw
            exact va_alen hx hb hK hP (a - 3) 1 hw rfl rfl hd k0
          · rw [cvE_arq h (Or.inl rfl)] at hw
            exact va_alen hx hb hK hP (a - 3) 2 hw rfl rfl hd k0
          · rw [cvE_arq h (Or.inr rfl)] at hw
            exact va_alen hx hb hK hP (a - 3) 3 hw rfl rfl hd k0
      · cases hn
    · cases hn
  case newarray t =>
    cases hl; simp only [mNext] at hn
    have hadN : ad G μ.1.1 = H.size := by rw [ad_hi G hly.1, hsz]
    split at hn
    · rename_i n r
      split at hn
      · cases hn
      · rename_i h0
        cases hn
        generalize hμ1 : (((μ.1.1 + 1, μ.1.2.1 + n.toNatClampNeg, up1 μ.1.2.2 μ.1.1 (6, n.toNatClampNeg)), μ.2.1, up1 μ.2.2.1 μ.1.1 (fun _ => 0), μ.2.2.2) : mM) = μ1 at kk hc hs
        have k9 : kept μ μ1 := by
          have h3 := hly.1
          rw [← hμ1]; exact kept.push hly (by omega) (by omega) (Nat.le_add_right _ _) (fun j hj => by simp [up1, show j ≠ μ.1.1 by omega])
        have e1 : μ1.1.1 = μ.1.1 + 1 := by rw [← hμ1]
        have e2 : μ1.1.2.1 = μ.1.2.1 + n.toNatClampNeg := by rw [← hμ1]
        have hps := wsG_push (G := G) (μ := μ) (μ1 := μ1) hly.1 e1 (fun j hj => by rw [← hμ1]; simp only [cvE, kd, ln, up1, if_neg hj]; try rfl)
        have hcv : cvE G μ1 μ.1.1 = .inl (G.2.1 6, n.toNatClampNeg, .inl (fun _ => 0)) := by rw [← hμ1]; simp [cvE, kd, ln, up1]
        rw [hcv, hadN] at hps
        rw [List.map_cons, sh_ref, hadN] at kk
        exact sp_newa (cA := G.2.1 6) hx hb hts arr_in.1 rfl (hK.2 0 _ rfl).2 hP hS (fun cA => rfl) (fun q => h0 (Or.inl q)) rfl (by show _ * 4 ≤ _; omega) (by omega) (by omega) hd (fun H1 hP1 hz1 hS1 => kk H1 locs ls _ _ ⟨k9.1, by rw [hz1, hsz, e1]; have := hly.1; omega, by rw [← hps]; exact hP1, hS1, hE.of k9.2.2.2⟩ hL (by omega) (by omega))
    · rename_i n r
      split at hn
      · cases hn
      · rename_i h0
        cases hn
        generalize hμ1 : (((μ.1.1 + 1, μ.1.2.1 + n.toNatClampNeg, up1 μ.1.2.2 μ.1.1 (7, n.toNatClampNeg)), μ.2.1, up1 μ.2.2.1 μ.1.1 (fun _ => 0), μ.2.2.2) : mM) = μ1 at kk hc hs
        have k9 : kept μ μ1 := by
          have h3 := hly.1
          rw [← hμ1]; exact kept.push hly (by omega) (by omega) (Nat.le_add_right _ _) (fun j hj => by simp [up1, show j ≠ μ.1.1 by omega])
        have e1 : μ1.1.1 = μ.1.1 + 1 := by rw [← hμ1]
        have e2 : μ1.1.2.1 = μ.1.2.1 + n.toNatClampNeg := by rw [← hμ1]
        have hps := wsG_push (G := G) (μ := μ) (μ1 := μ1) hly.1 e1 (fun j hj => by rw [← hμ1]; simp only [cvE, kd, ln, up1, if_neg hj]; try rfl)
        have hcv : cvE G μ1 μ.1.1 = .inl (G.2.1 7, n.toNatClampNeg, .inl (fun _ => 0)) := by rw [← hμ1]; simp [cvE, kd, ln, up1]
        rw [hcv, hadN] at hps
        rw [List.map_cons, sh_ref, hadN] at kk
        exact sp_newa (cA := G.2.1 7) hx hb hts arr_in.2 rfl (hK.2 1 _ rfl).2 hP hS (fun cA => rfl) (fun q => h0 (Or.inl q)) rfl (by show _ * 1 ≤ _; omega) (by omega) (by omega) hd (fun H1 hP1 hz1 hS1 => kk H1 locs ls _ _ ⟨k9.1, by rw [hz1, hsz, e1]; have := hly.1; omega, by rw [← hps]; exact hP1, hS1, hE.of k9.2.2.2⟩ hL (by omega) (by omega))
    · cases hn
  case anewarray j =>
    cases hl; simp only [mNext] at hn
    have hadN : ad G μ.1.1 = H.size := by rw [ad_hi G hly.1, hsz]
    split at hn
    · rename_i ci n r hj
      split at hn
      · cases hn
      · rename_i h0
        cases hn
        generalize hμ1 : (((μ.1.1 + 1, μ.1.2.1 + n.toNatClampNeg, up1 μ.1.2.2 μ.1.1 (ci + 6, n.toNatClampNeg)), μ.2.1, μ.2.2.1, up1 μ.2.2.2 μ.1.1 (fun _ => none)) : mM) = μ1 at kk hc hs
        have k9 : kept μ μ1 := by
          rw [← hμ1]; exact kept.push hly (by omega) (by omega) (Nat.le_add_right _ _) (fun _ _ => rfl)
        have e1 : μ1.1.1 = μ.1.1 + 1 := by rw [← hμ1]
        have e2 : μ1.1.2.1 = μ.1.2.1 + n.toNatClampNeg := by rw [← hμ1]
        have hps := wsG_push (G := G) (μ := μ) (μ1 := μ1) hly.1 e1 (fun j hj => by rw [← hμ1]; simp only [cvE, kd, ln, up1, if_neg hj]; try rfl)
        have h23 : ci = 2 ∨ ci = 3 := by omega
        have hcv : cvE G μ1 μ.1.1 = .inl (G.2.1 (ci + 6), n.toNatClampNeg, .inr (.inr (.inr (.inr (fun _ => none))))) := by
          rw [← hμ1]; rcases h23 with rfl | rfl <;> simp [cvE, kd, ln, up1]
        rw [hcv, hadN] at hps
        rw [List.map_cons, sh_ref, hadN] at kk
        have fin : ∀ H1 : Heap, va_P G.1 vwCl (wsG G μ ++ [(H.size, .inl (G.2.1 (ci + 6), n.toNatClampNeg, .inr (.inr (.inr (.inr (fun _ => none))))))]) H1 → H1.size = H.size + 1 → va_S (aG G) s.heap H1 locs → W p l e R s m args below meth c H1 locs (cells + 1) (slots + n.toNatClampNeg) Q (F0 m (pc + 3) ls (.ref H.size :: r.map (sh G))) := fun H1 hP1 hz1 hS1 => kk H1 locs ls _ _ ⟨k9.1, by rw [hz1, hsz, e1]; have := hly.1; omega, by rw [← hps]; exact hP1, hS1, hE.of k9.2.2.2⟩ hL (by omega) (by omega)
        obtain ⟨g1, g2⟩ := nl_in hj
        rcases h23 with rfl | rfl
        · exact sp_newq hx hb hts hown g2 rfl hE.2.2.2.1 (hK.2 2 _ rfl).2 hP hS (fun q => h0 (Or.inl q)) rfl (by omega) (by omega) (by omega) hd fin
        · exact sp_newq hx hb hts hown g2 rfl hE.2.2.2.2.1 (hK.2 3 _ rfl).2 hP hS (fun q => h0 (Or.inl q)) rfl (by omega) (by omega) (by omega) hd fin
    · cases hn
  case new j =>
    cases hl; simp only [mNext] at hn
    have hadN : ad G μ.1.1 = H.size := by rw [ad_hi G hly.1, hsz]
    split at hn
    · rename_i ci hj
      split at hn
      · rename_i h0
        cases hn
        generalize hμ1 : (((μ.1.1 + 1, μ.1.2.1 + nfOf ci, up1 μ.1.2.2 μ.1.1 (ci, nfOf ci)), up1 μ.2.1 μ.1.1 (rw' (dfOf ci)), μ.2.2.1, μ.2.2.2) : mM) = μ1 at kk hc hs
        have k9 : kept μ μ1 := by
          rw [← hμ1]; exact kept.push hly (by omega) (fun _ => rfl) (Nat.le_add_right _ _) (fun _ _ => rfl)
        have e1 : μ1.1.1 = μ.1.1 + 1 := by rw [← hμ1]
        have e2 : μ1.1.2.1 = μ.1.2.1 + nfOf ci := by rw [← hμ1]
        have hps := wsG_push (G := G) (μ := μ) (μ1 := μ1) hly.1 e1 (fun j hj => by rw [← hμ1]; simp only [cvE, kd, ln, up1, if_neg hj]; try rfl)
        have hcv : cvE G μ1 μ.1.1 = .inr (ci, dfOf ci) := by
          rw [← hμ1]
          simp only [cvE, kd, ln, up1, if_true, if_pos h0]
          congr 2
          exact df_map G h0
        rw [hcv, hadN] at hps
        rw [List.map_cons, sh_ref, hadN] at kk
        exact sp_new hx hb hts hown h0 (nl_in hj).2 hK hP hS (by omega) (by omega) hd (fun H1 hP1 hz1 hS1 => kk H1 locs ls _ _ ⟨k9.1, by rw [hz1, hsz, e1]; have := hly.1; omega, by rw [← hps]; exact hP1, hS1, hE.of k9.2.2.2⟩ hL (by omega) (by omega))
      · cases hn
    · cases hn
  all_goals (exfalso; simp [mNext] at hn)
end XS
end
section
/-! A RUN OF THE SMALL MACHINE IS A RUN OF THE MACHINE -/
def rmD (d mc ms : Nat) : Room := { frames := d, cells := mc, slots := ms, locals := 64 * d }
def Qr (G : sG) (v : Option Value) (μ' : mM) : Array Value → State → Outcome → State → Prop := fun _ st o t => (o = .returned (v.map (sh G)) ∧ wd G μ' t) ∧ va_F (aG G) st t
/-- every method's run, calls no deeper than d, is the machine's -/
def snd (l : Launch) (d : Nat) : Prop := ∀ (G : sG) (k : Nat) (a : List Value) (μ : mM) (v : Option Value) (μ' : mM), k < 131 → run d k a μ v μ' → lyOK μ.1 →
  Met l (yOf k) (wsK k) (rmD d (μ'.1.1 - μ.1.1) (μ'.1.2.1 - μ.1.2.1)) (va_Pc (a.map (sh G)) (wd G μ)) (Qr G v μ') (μ'.1.1 - μ.1.1) (μ'.1.2.1 - μ.1.2.1) (aG G)
theorem blind (G : sG) (av : List Value) (μ : mM) : FrameBlind (va_Pc av (wd G μ)) := by
  intro a U g mk h
  obtain ⟨h1, h2, h3, h4, h5, h6⟩ := h
  refine ⟨h1, h2, h3, h4, va_K.moved (u := U) (U := U.calling g mk a) (Vm.Alike.refl U.vm) h5, ?_⟩
  obtain ⟨e1, e2, e3, e4, e5, e6⟩ := h6
  refine ⟨fun i hi => (e1 i hi).moved (u := U) (U := U.calling g mk a) (Vm.Alike.refl U.vm), e2.moved (u := U) (U := U.calling g mk a) (Vm.Alike.refl U.vm), e3.moved (u := U) (U := U.calling g mk a) (Vm.Alike.refl U.vm), e4.moved (u := U) (U := U.calling g mk a) (Vm.Alike.refl U.vm), e5.moved (u := U) (U := U.calling g mk a) (Vm.Alike.refl U.vm), fun q hq hn => ?_⟩
  exact va_Nw.same (w := nestW q) rfl (u := U) (U := U.calling g mk a) rfl (e6 q hq hn)
theorem own6_1 : (List.range 131).all (fun k => stOf k || decide (oOf k < 6)) = true := by decide +kernel
theorem own6 {k : Nat} (h : k < 131) (hs : stOf k = false) : oOf k < 6 := by
  have := List.all_eq_true.mp own6_1 k (List.mem_range.mpr h)
  rw [hs] at this
  simpa using this
theorem nf_pos {ci : Nat} (h : ci < 6) : 0 < nfOf ci := lt6 (P := fun ci => 0 < nfOf ci) (by decide) (by decide) (by decide) (by decide) (by decide) (by decide) h
section XW
variable {p : Program} {l : Launch} {e : Env} {R : Room} {s : State} {m : MethodId} {args : Array Value} {below : List Frame} {meth : Method} {c : Code} {Q : State → Prop} {G : sG} {M : Nat}
/-- behind a call -/
theorem back_call {H : Heap} {locs : List Loc} {cells slots mc ms pc : Nat} {ls : Array Slot} {st0 rest : List Value} {a : Array Value} {v : Option Value} {μ' : mM} (hr : va_Run p l e R s m args below meth c H locs cells slots mc ms (F0 m pc ls st0) rest (Qr G v μ' a) (aG G)) (hS : va_S (aG G) s.heap H locs)
    (kk : ∀ (t : State) (H1 : Heap) (locs1 : List Loc), t.heap = H1 → wd G μ' t → va_S (aG G) s.heap H1 locs1 → W p l e R s m args below meth c H1 locs1 (cells + mc) (slots + ms) Q (F0 m (pc + 3) ls ((v.map (sh G)).toList ++ rest))) : W p l e R s m args below meth c H locs cells slots Q (F0 m pc ls st0) := by
  intro T hT X
  obtain ⟨v', st₀, t, T', L, h0, X', hL, e1, e2, ⟨⟨hv, hw⟩, hz, hk⟩, st⟩ := hr T hT X
  cases hv
  rw [h0] at hz hk
  obtain ⟨t2, a1, b1⟩ := kk t T'.heap (locs ++ L) e1.symm hw
    ⟨Nat.le_trans hS.1 (by rw [e1]; exact hz), fun q h1 h2 => by rw [e1, hk q (Nat.lt_of_lt_of_le h1 hS.1) h2]; exact hS.2.1 q h1 h2, fun q hq => by
      rcases List.mem_append.mp hq with h | h
      · exact hS.2.2 q h
      · exact hL q h⟩ T' rfl X'
  exact ⟨t2, st t2 a1, b1⟩
theorem xc {d k cells slots pc len : Nat} {i : Instr} {L st a r : List Value} {μ μ1 : mM} {v1 : Option Value} {H : Heap} {locs : List Loc} {ls : Array Slot} (ih : snd l d) (F : fixd p R s m args meth c G M) (hRf : d + 1 ≤ R.frames) (hRl : 64 * d + 60 ≤ R.locals) (hn : mCall M i st μ.1 = some (k, a, r)) (hd : decode (bOf M) pc = .ok (i, len)) (hl : lenOK i len) (h8 : (r.map fun v => v.category).sum ≤ 8) (hr : run d k a μ v1 μ1) (hI : Iv G s μ H locs) (hL : lr G (mlOf M) L ls) (hc : cells + (μ1.1.1 - μ.1.1) ≤ R.cells) (hs : slots + (μ1.1.2.1 - μ.1.2.1) ≤ R.slots)
    (kk : ∀ (H1 : Heap) (locs1 : List Loc), Iv G s μ1 H1 locs1 → W p l e R s m args below meth c H1 locs1 (cells + (μ1.1.1 - μ.1.1)) (slots + (μ1.1.2.1 - μ.1.2.1)) Q (F0 m (pc + 3) ls ((v1.toList ++ r).map (sh G)))) :
    W p l e R s m args below meth c H locs cells slots Q (F0 m pc ls (st.map (sh G))) := by
  obtain ⟨hx, hb, hml, hown, hts, hinit, hK, hA, -, -⟩ := F
  obtain ⟨hly, hsz, hP, hS, hE⟩ := hI
  have kp := run_kept d k a μ v1 μ1 hr hly
  have CF : CallFix p m c (bOf M) (mlOf M) s args gT (ownN (oOf M)) := ⟨hx, hb, hml, hown, hts⟩
  have fin : ∀ (t : State) (H1 : Heap) (locs1 : List Loc), t.heap = H1 → wd G μ1 t → va_S (aG G) s.heap H1 locs1 → W p l e R s m args below meth c H1 locs1 (cells + (μ1.1.1 - μ.1.1)) (slots + (μ1.1.2.1 - μ.1.2.1)) Q (F0 m (pc + 3) ls ((v1.map (sh G)).toList ++ r.map (sh G))) := by
    intro t H1 locs1 ht hw hS1
    have := kk H1 locs1 ⟨hw.1, by rw [← ht]; exact hw.2.1, by rw [← ht]; exact hw.2.2.1, hS1, hE.of kp.2.2.2⟩
    rw [List.map_append] at this
    cases v1 <;> exact this
  have pre : ∀ U : State, U.heap = H → s.WarmedH U.vm → va_Pc (a.map (sh G)) (wd G μ) (a.map (sh G)).toArray U := fun U hU hW => ⟨rfl, hly, by rw [hU]; exact hsz, by rw [hU]; exact hP, va_K.moved hW.alike hK, hE.move hS hU hW⟩
  have hsplit : naOf k ≤ st.length → st.map (sh G) = ((st.take (naOf k)).reverse.map (sh G)).reverse ++ (st.drop (naOf k)).map (sh G) := fun _ => by
    rw [← List.map_reverse, List.reverse_reverse, ← List.map_append, List.take_append_drop]
  have hmon : 2 * (F0 m pc ls (st.map (sh G))).monitorRoom + ((r.map (sh G)).map fun v => v.category).sum ≤ 8 := by
    show 2 * 0 + _ ≤ 8
    rw [sh_sum]; omega
  cases i
  case invokestatic j =>
    cases hl; simp only [mCall] at hn
    split at hn
    · rename_i k' hj
      split at hn
      · rename_i h0
        cases hn
        obtain ⟨w1, w2, -, w4, w5, w6, w7⟩ := mw_all h0.2.2
        rw [if_pos h0.2.1] at w2 w6
        have hlk : (Cond.methodLink (ownN (oOf M)) j (yOf k)) ∈ gT := by
          rcases cl_in hj with q | q
          · exact q
          · exfalso
            have hs0 : stOf k = true := h0.2.1
            have hi0 : isInit k = true := q.1
            simp only [isInit, Bool.or_eq_true, beq_iff_eq] at hi0
            rcases hi0 with ((((rfl | rfl) | rfl) | rfl) | rfl) | rfl <;> revert hs0 <;> decide
        have hG : GoodIn gT (va_wsS (ownN (oOf M)) j (yOf k) (wsK k)) := gT_goodIn (fun w hw => by
          rcases List.mem_append.mp hw with h | h
          · simp only [List.mem_cons, List.not_mem_nil, or_false] at h
            rcases h with rfl | rfl | rfl
            · exact hlk
            · exact w2
            · exact w4
          · rcases List.mem_cons.mp h with rfl | h
            · exact w1
            · exact h)
        refine back_call (va_runS (As := (st.take (naOf k)).reverse.map (sh G)) (rest := (st.drop (naOf k)).map (sh G)) CF (ih G k _ μ v1 μ1 h0.2.2 hr hly) (va_cwS (naOf k) hts hG rfl rfl rfl w6 ⟨hRf, ?_⟩) ⟨blind G _ μ, pre⟩ rfl ?_ hL.2.1 (hsplit h0.1) hmon hd ⟨hc, hs⟩) hS fin
        · have := w7.2.2.1
          show 8 + (mlOf k + 11) + 64 * d ≤ R.locals
          omega
        · simp
          omega
      · cases hn
    · cases hn
  case invokevirtual j =>
    cases hl; simp only [mCall] at hn
    split at hn
    · rename_i k' hj
      split at hn
      · rename_i h0
        cases hn
        obtain ⟨q1, q2, q3, q4, q5⟩ := h0
        obtain ⟨w1, w2, w3, w4, w5, w6, w7⟩ := mw_all q4
        rw [q2] at w2 w6
        have hlk : (Cond.methodLink (ownN (oOf M)) j (yOf k)) ∈ gT := by
          rcases cl_in hj with q | q
          · exact q
          · exact absurd q.1 (by rw [q3]; decide)
        generalize hav : (st.take (naOf k)).reverse = av at *
        unfold rcv at q5
        split at q5
        · rename_i b as
          simp only [decide_eq_true_eq] at q5
          have hg1 : oOf k < 6 := own6 q4 q2
          have hro := hly.ro (a := b) (by rw [q5]; omega)
          have hw := wsG_get (G := G) hro.1 hro.2
          rw [cvE_obj q5 hg1 hly] at hw
          have hnm : (yOf k).cls = (vC (oOf k)).1 := by rw [w7.1, ← (ft_ok hg1 (nf_pos hg1)).2.2.2]
          have hG : GoodIn gT (wsV (ownN (oOf M)) j (yOf k).cls (yOf k) (wsK k)) := gT_goodIn (fun w hw => by
            rcases List.mem_append.mp hw with h | h
            · simp only [List.mem_cons, List.not_mem_nil, or_false] at h
              rcases h with rfl | rfl | rfl | rfl
              · exact hlk
              · exact w2
              · exact w3 q3 q2
              · exact w4
            · rcases List.mem_cons.mp h with rfl | h
              · exact w1
              · exact h)
          have hlen : as.length = naOf k - 1 := by
            have : (Value.ref b :: as).length = naOf k := by rw [← hav]; simp; omega
            simp at this
            omega
          refine back_call (va_runV (As := as.map (sh G)) (rest := (st.drop (naOf k)).map (sh G)) CF (ih G k _ μ v1 μ1 q4 hr hly) (cwV (naOf k - 1) hts hG rfl rfl rfl ⟨rfl, w6⟩ ⟨hRf, ?_⟩) ⟨blind G _ μ, by rw [hnm]; exact va_recv hK hP (vw_at hg1) hw, pre⟩ rfl (by simp; exact hlen) hL.2.1 ?_ hmon hd ⟨hc, hs⟩) hS fin
          · have := w7.2.2.1
            show 8 + (mlOf k + 11) + 64 * d ≤ R.locals
            omega
          · show st.map (sh G) = _
            rw [hsplit q1]
            simp [sh_ref]
        · cases q5
      · cases hn
    · cases hn
  case invokespecial j =>
    cases hl; simp only [mCall] at hn
    split at hn
    · rename_i k' hj
      split at hn
      · rename_i h0
        cases hn
        obtain ⟨q1, q2, q3, q4, q5⟩ := h0
        obtain ⟨w1, w2, w3, w4, w5, w6, w7⟩ := mw_all q4
        rw [q2] at w2 w6
        have hrt : rtOf k = none := w7.2.2.2.2.2 q3
        have hws : wsK k = .code (yOf k) (bOf k) (mlOf k) none :: gT := by rw [wsK, hrt]
        have hGk : GoodIn gT (wsK k) := gT_goodIn (fun w hw => by
          rcases List.mem_cons.mp hw with rfl | h
          · exact w1
          · exact h)
        generalize hav : (st.take (naOf k)).reverse = av at *
        unfold rcI at q5
        split at q5
        · rename_i b as
          have hlen : as.length = naOf k - 1 := by
            have : (Value.ref b :: as).length = naOf k := by rw [← hav]; simp; omega
            simp at this
            omega
          have hstk : st.map (sh G) = (as.map (sh G)).reverse ++ .ref (ad G b) :: (st.drop (naOf k)).map (sh G) := by
            rw [hsplit q1]
            simp [sh_ref]
          have hR2 : 8 + (mlOf k + 11) + (rmD d (μ1.1.1 - μ.1.1) (μ1.1.2.1 - μ.1.2.1)).locals ≤ R.locals := by
            have := w7.2.2.1
            show 8 + (mlOf k + 11) + 64 * d ≤ R.locals
            omega
          rcases cl_in hj with q | ⟨-, q, hq, hqn, hqe⟩
          · exact back_call (va_runI (As := as.map (sh G)) (rest := (st.drop (naOf k)).map (sh G)) CF (ih G k _ μ v1 μ1 q4 hr hly) (cwI (naOf k - 1) hts hGk hws rfl rfl (hts _ w4) (hts _ q) (hts _ w2) (w7.2.1 q3) w6 ⟨hRf, hR2⟩) ⟨blind G _ μ, pre⟩ rfl (by simp; exact hlen) hL.2.1 hstk hmon hd ⟨hc, hs⟩) hS fin
          · have hnw : va_Nw (.methodLinkNest (ownN (oOf M)) j (yOf k) "EvenWords") s := by rw [← hqe]; exact hE.2.2.2.2.2 q hq hqn
            exact back_call (va_runIN (As := as.map (sh G)) (rest := (st.drop (naOf k)).map (sh G)) CF (ih G k _ μ v1 μ1 q4 hr hly) ⟨va_cnB (naOf k - 1) hts hGk hws rfl rfl hnw (hts _ w4) w6 ⟨hRf, hR2⟩, w7.2.1 q3, hts _ w2⟩ ⟨blind G _ μ, pre⟩ rfl (by simp; exact hlen) hL.2.1 hstk hmon hd ⟨hc, hs⟩) hS fin
        · cases q5
      · cases hn
    · cases hn
  all_goals (exfalso; simp [mCall] at hn)
end XW
end
section
section XF
variable {p : Program} {l : Launch} {e : Env} {R : Room} {s : State} {m : MethodId} {args : Array Value} {below : List Frame} {meth : Method} {c : Code} {Q : State → Prop} {G : sG} {M : Nat}
/-- from here to the return -/
theorem xw {d N0 S0 : Nat} (ih : snd l d) (F : fixd p R s m args meth c G M) (hRf : d + 1 ≤ R.frames) (hRl : 64 * d + 60 ≤ R.locals) {v : Option Value} {μ' : mM} (hRc : μ'.1.1 ≤ R.cells + N0) (hRs : μ'.1.2.1 ≤ R.slots + S0)
    (K : ∀ (pc' len : Nat) (i : Instr) (st' : List Value) (H' : Heap) (locs' : List Loc) (cells' slots' : Nat) (ls' : Array Slot), decode (bOf M) pc' = .ok (i, len) → lenOK i len → mRet M i st' = some v → Iv G s μ' H' locs' → cells' + N0 = μ'.1.1 → slots' + S0 = μ'.1.2.1 → W p l e R s m args below meth c H' locs' cells' slots' Q (F0 m pc' ls' (st'.map (sh G)))) :
    ∀ (n pc : Nat) (L st : List Value) (μ : mM) (H : Heap) (locs : List Loc) (cells slots : Nat) (ls : Array Slot), xR (run d) M n pc L st μ v μ' → Iv G s μ H locs → lr G (mlOf M) L ls → cells + N0 = μ.1.1 → slots + S0 = μ.1.2.1 → W p l e R s m args below meth c H locs cells slots Q (F0 m pc ls (st.map (sh G))) := by
  intro n
  induction n with
  | zero => intro pc L st μ H locs cells slots ls h; exact absurd h (by simp [xR])
  | succ n ihn =>
    intro pc L st μ H locs cells slots ls h hI hL hc hs
    obtain ⟨i, len, hd, hl, h⟩ := h
    rcases h with ⟨h, he⟩ | ⟨pc1, L1, st1, μ1, h, h2⟩ | ⟨k, a, r, v1, μ1, h, h8, hr, h2⟩
    · subst he
      exact K pc len i st H locs cells slots ls hd hl h hI hc hs
    · have k1 := next_kept h hI.1
      have k2 := xR_kept (run_kept d) _ _ _ _ _ _ _ h2 k1.1
      have q1 := k1.2.1
      have q2 := k2.2.1
      have q3 := k1.2.2.1
      have q4 := k2.2.2.1
      exact xs F h hd hl hI hL (by omega) (by omega) (fun H1 locs1 ls1 c1 s1 hI1 hL1 e1 e2 => ihn pc1 L1 st1 μ1 H1 locs1 c1 s1 ls1 h2 hI1 hL1 (by omega) (by omega))
    · have k1 := run_kept d k a μ v1 μ1 hr hI.1
      have k2 := xR_kept (run_kept d) _ _ _ _ _ _ _ h2 k1.1
      have q1 := k1.2.1
      have q2 := k2.2.1
      have q3 := k1.2.2.1
      have q4 := k2.2.2.1
      exact xc ih F hRf hRl h hd hl h8 hr hI hL (by omega) (by omega) (fun H1 locs1 hI1 => ihn (pc + 3) L (v1.toList ++ r) μ1 H1 locs1 _ _ ls h2 hI1 hL (by omega) (by omega))
end XF
/-- the locals at a method's entry -/
theorem lg_sl_len {vs : List Value} (h : ∀ v ∈ vs, v.category = 1) : lg_sl vs = vs.map Slot.val := by
  induction vs with
  | nil => rfl
  | cons v vs ih =>
    have h1 := h v List.mem_cons_self
    have h2 := ih (fun w hw => h w (List.mem_cons_of_mem _ hw))
    have h3 : ¬ v.category = 2 := by omega
    show (if v.category = 2 then [Slot.val v, .second] else [.val v]) ++ lg_sl vs = _
    rw [if_neg h3, h2]
    rfl
theorem lv_args_get : ∀ (vs : List Value) (i : Nat), (∀ v ∈ vs, v.category = 1) → ∀ (j : Nat) (v : Value), vs[j]? = some v → (i + j, v) ∈ lv_args i vs := by
  intro vs
  induction vs with
  | nil => intro i _ j v h; simp at h
  | cons w vs ih =>
    intro i hc j v h
    have h1 := hc w List.mem_cons_self
    have h2 : ∀ v ∈ vs, v.category = 1 := fun v hv => hc v (List.mem_cons_of_mem _ hv)
    cases j with
    | zero =>
      simp at h
      subst h
      cases w <;> first | (simp [lv_args]; done) | (simp [Value.category] at h1)
    | succ j =>
      simp only [List.getElem?_cons_succ] at h
      have := ih (i + 1) h2 j v h
      rw [show i + (j + 1) = i + 1 + j by omega]
      cases w <;> first | (simp only [lv_args]; exact List.mem_cons_of_mem _ this) | (simp [Value.category] at h1)
theorem lr_entry {G : sG} {k : Nat} {a : List Value} (ha : a.length = naOf k) (hn : naOf k ≤ mlOf k) (hc : ∀ v ∈ a, v.category = 1) : lr G (mlOf k) (enL k a) ((lg_sl (a.map (sh G)) ++ List.replicate (mlOf k - (lg_sl (a.map (sh G))).length) Slot.unset).toArray) := by
  have hc' : ∀ v ∈ a.map (sh G), v.category = 1 := by
    intro v hv
    obtain ⟨w, hw, rfl⟩ := List.mem_map.mp hv
    rw [sh_cat]
    exact hc w hw
  have hlen : (lg_sl (a.map (sh G))).length = a.length := by rw [lg_sl_len hc']; simp
  obtain ⟨h1, h2, h3⟩ := lv_entry (a.map (sh G)) (n := mlOf k) (by rw [hlen, ha]; exact hn)
  refine ⟨by simp [enL]; omega, h1, h2, fun i v hi hv => ?_⟩
  have hi' : a[i]? = some v := by
    unfold enL at hi
    by_cases q : i < a.length
    · rwa [List.getElem?_append_left q] at hi
    · rw [List.getElem?_append_right (by omega), List.getElem?_replicate] at hi
      split at hi
      · cases hi; exact absurd rfl hv
      · cases hi
  have := lv_args_get (a.map (sh G)) 0 hc' i (sh G v) (by rw [List.getElem?_map, hi']; rfl)
  rw [Nat.zero_add] at this
  exact h3 _ this
theorem plain_in {k : Nat} (h : k < 131) : plainName (yOf k).cls = true := (mw_all h).2.2.2.2.1
theorem rt_cases {M : Nat} {i : Instr} {st : List Value} {v : Option Value} (h : mRet M i st = some v) : (i = .ireturn ∧ ∃ x, st = [.int x] ∧ v = some (.int x) ∧ (rtOf M = some .int ∨ (rtOf M = some .boolean ∧ (x = 0 ∨ x = 1)))) ∨ (i = .return_ ∧ st = [] ∧ v = none ∧ rtOf M = none) := by
  unfold mRet at h
  split at h
  · split at h
    · rename_i x hr
      cases h
      exact Or.inl ⟨rfl, _, rfl, rfl, Or.inl hr⟩
    · split at h
      · rename_i hr h01
        cases h
        exact Or.inl ⟨rfl, _, rfl, rfl, Or.inr ⟨hr, h01⟩⟩
      · cases h
    · cases h
  · split at h
    · rename_i hr
      cases h
      exact Or.inr ⟨rfl, rfl, rfl, hr⟩
    · cases h
  · cases h
set_option maxHeartbeats 4000000 in
/-- every run of the small machine is the machine's -/
theorem snd_all (l : Launch) : ∀ d, snd l d := by
  intro d
  induction d with
  | zero => intro G k a μ v μ' hk h; exact absurd h (by simp [run])
  | succ d ih =>
    intro G k a μ v μ' hk h hly0
    have kp := run_kept (d + 1) k a μ v μ' h hly0
    obtain ⟨hlen, hcat, n, hrun⟩ := h
    obtain ⟨w1, w2, w3, w4, w5, w6, w7⟩ := mw_all hk
    have hc1 : ∀ v ∈ a, v.category = 1 := fun v hv => by simpa using List.all_eq_true.mp hcat v hv
    refine Met.ofW (cc := bOf k) (maxL := mlOf k) (ret := rtOf k) w5 rfl ?_
    intro p e s m args below meth c s₁ B hml hv
    obtain ⟨rfl, hly, hsz, hP, hK, hE⟩ := hv
    have hx := B.exec
    have hb := B.bytes
    have hr := B.returns
    have hlocks := B.notSynchronized
    have hts0 := atoms_spec (ws := wsK k) B.pre
    have hts : ∀ w ∈ gT, w.before ((a.map (sh G)).toArray) s = true := fun w hw => hts0 w (List.mem_cons_of_mem _ hw)
    have hown : s.vm.findClass (ownN (oOf k)) = some m.cls := by rw [← w7.1]; exact findClass_of_methodNamed B.named
    have hinit : isInit k = true → meth.name = "<init>" := fun q => by rw [(name_of_methodNamed B.named B.method).1]; exact w7.2.1 q
    have hsz0 : G.2.2 3 ≤ s.heap.size := by rw [hsz]; omega
    have F : fixd p (rmD (d + 1) (μ'.1.1 - μ.1.1) (μ'.1.2.1 - μ.1.2.1)) s m ((a.map (sh G)).toArray) meth c G k := ⟨hx, hb, hml, hown, hts, hinit, hK, hsz0, Nat.le_add_left 1 d, by show 60 ≤ 64 * (d + 1); omega⟩
    rw [lg_entry_eq]
    have q1 := kp.2.1
    have q2 := kp.2.2.1
    refine xw (M := k) (G := G) (N0 := μ.1.1) (S0 := μ.1.2.1) (v := v) (μ' := μ') ih F (Nat.le_refl _) (by show 64 * d + 60 ≤ 64 * (d + 1); omega) (by show _ ≤ _ - _ + _; omega) (by show _ ≤ _ - _ + _; omega) ?_ n 0 (enL k a) [] μ s.heap [] 0 0 _ hrun ⟨hly, hsz, hP, va_S.rf, hE⟩ (lr_entry hlen w7.2.2.2.1 hc1) (by omega) (by omega)
    intro pc' len i st' H' locs' cells' slots' ls' hd hl hret hI hc hs
    obtain ⟨i1, i2, i3, i4, i5⟩ := hI
    have e1 : cells' = μ'.1.1 - μ.1.1 := by omega
    have e2 : slots' = μ'.1.2.1 - μ.1.2.1 := by omega
    subst e1
    subst e2
    have post : ∀ t : State, t.heap = H' → s.WarmedH t.vm → Qr G v μ' ((a.map (sh G)).toArray) s (.returned (v.map (sh G))) t := fun t ht hW => ⟨⟨rfl, i1, by rw [ht]; exact i2, by rw [ht]; exact i3, va_K.moved hW.alike hK, i5.move i4 ht hW⟩, i4.F ht⟩
    rcases rt_cases hret with ⟨rfl, x, rfl, rfl, hrt⟩ | ⟨rfl, rfl, rfl, hrt⟩
    · cases hl
      rcases hrt with hrt | ⟨hrt, h01⟩
      · exact W.iret hx hb (by rw [hr, hrt]) post i4.2.2 hd hlocks
      · exact W.zret (ty := .boolean) hx hb (by rw [hr, hrt]) (by rcases h01 with rfl | rfl <;> rfl) post i4.2.2 hd hlocks
    · cases hl
      exact W.vret hx hb (by rw [hr, hrt]) post i4.2.2 hd hlocks
end
section
/-! THE CLAIM OUT OF ONE WALK OF THE LAW'S BODY. Your part is whole_start (and what it stands on); all else here is the same for every law, but numbers. -/
def R_law : String := "EvenWordsLaw"
def lw_P (b : Addr) (xs : List Int32) (args : Array Value) (s : State) : Prop := args = #[.ref b] ∧ s.IntsAt b xs ∧ xs.length ≤ 2560 ∧ (Jvm.Cond.and given_1 narrow_1).before args s = true
def lw_Q (_ : Array Value) (s : State) (o : Outcome) (t : State) : Prop := o = .returned (some (.int 1)) ∧ Framed s o t [] 600000 7302249
def lw_Z (below : List Frame) (a : Array Value) (s : State) : State → Prop := fun t => ∃ o, t.status = .running ∧ Ended t below o ∧ lw_Q a s o t
/-- the law's own end, with 1 on the stack, nothing written that was there before, its room as the claim has it -/
theorem lw_ret {p : Program} {l : Launch} {e : Env} {s : State} {m : MethodId} {below : List Frame} {meth : Method} {c : Code} {b : Nat} (hx : p.tables.exec = Jvm.exec) (hb : c.code = code) (hr : meth.sig.returnType = ret) (hlocks : meth.locks = false) {pc : Nat} {H : Heap} {ls : Array Slot} (hdg : decode code pc = .ok (.ireturn, 1)) : W p l e room_1 s m #[Value.ref b] below meth c H [] 600000 7302249 (lw_Z below #[Value.ref b] s) (F0 m pc ls [.int 1]) := by
  intro T hT X
  obtain ⟨fs, hret, hrun, hended, hW, hframe⟩ := X.leave (v := some (.int 1)) (hlocks := hlocks) (fun h => by rw [hr] at h; cases h)
  have hmeth' : T.vm.method? m = some meth := X.method'
  refine ⟨T.setFrames fs, ?_, .returned (some (.int 1)), hrun, hended, rfl, ⟨_, rfl⟩, hW, hframe⟩
  jvm_step X.here [X.here.top, hx, hb, hdg, hmeth', hr, ret, narrow_b1]
  (try refine ⟨rfl, ?_⟩); (try refine ⟨rfl, ?_⟩)
  first | (intro acts; rw [hret _ acts rfl rfl rfl]) | rw [hret _ _ rfl rfl rfl]
  exact Steps.refl _
/-- what holds at the law's entry: the machine, the code, the tables' words (any of lw_tbl by 'hts w (by decide +kernel)'), the script of L ints xs at the cell b, what the Statement gives of the start (any of its parts by flat_of_before) -/
def lw_At (p : Program) (s : State) (m : MethodId) (meth : Method) (c : Code) (b L : Nat) (xs : Nat → Int32) : Prop :=
  p.tables.exec = Jvm.exec ∧ c.code = code ∧ meth.sig.returnType = ret ∧ c.maxLocals = 4 ∧ s.vm.findClass R_law = some m.cls ∧ (∀ w ∈ lw_tbl, w.before #[Value.ref b] s = true) ∧ va_X b L xs s s.heap ∧ b < s.heap.size ∧ meth.locks = false ∧ (Jvm.Cond.and given_1 narrow_1).before #[Value.ref b] s = true
end
section
/-! THE LAW'S ENTRY, as a start of the small machine -/
theorem law_len : (Cond.eq (.length (.static "EvenWords$Forms" "AS_A" "[I")) (.int 34)) ∈ flatC (Jvm.Cond.and given_1 narrow_1) ∧ (Cond.eq (.length (.static "EvenWords$Forms" "MEANS" "[I")) (.int 64)) ∈ flatC (Jvm.Cond.and given_1 narrow_1) ∧ (Cond.arrayOf (.static "EvenWords$Forms" "AS_A" "[I") .int) ∈ flatC (Jvm.Cond.and given_1 narrow_1) ∧ (Cond.arrayOf (.static "EvenWords$Forms" "MEANS" "[I") .int) ∈ flatC (Jvm.Cond.and given_1 narrow_1) := by decide +kernel
theorem law_asA : ∀ j, j < 34 → (Cond.eq (.elem (.static "EvenWords$Forms" "AS_A" "[I") (.int (Int32.ofNat j))) (.int (iI (asA.getD j 0)))) ∈ flatC (Jvm.Cond.and given_1 narrow_1) := by decide +kernel
theorem law_asM : ∀ j, j < 64 → (Cond.eq (.elem (.static "EvenWords$Forms" "MEANS" "[I") (.int (Int32.ofNat j))) (.int (iI (asM.getD j 0)))) ∈ flatC (Jvm.Cond.and given_1 narrow_1) := by decide +kernel
theorem lw_word {w : Cond} {i : Nat} (h : lw_tbl[i]? = some w) : w ∈ lw_tbl := List.mem_of_getElem? h
theorem mu0_ly (L : Nat) (xs : Nat → Int32) : lyOK (mu0 L xs).1 := by
  refine ⟨Nat.le_refl 3, fun i hi => ?_, fun i h1 h2 => ?_, fun i hi => ?_⟩
  · match i, hi with
    | 0, _ => rfl
    | 1, _ => rfl
    | 2, _ => rfl
    | n + 3, hi => omega
  · exact absurd h2 (by show ¬ i < 3; omega)
  · have : 3 ≤ i := hi
    simp only [kd, mu0]
    rw [if_neg (by omega), if_neg (by omega), if_neg (by omega)]
set_option maxHeartbeats 4000000 in
theorem law_sound {p : Program} {e : Env} {s : State} {m : MethodId} {below : List Frame} {meth : Method} {c : Code} (l : Launch) {b L : Nat} {xs : Nat → Int32} (C0 : lw_At p s m meth c b L xs) {d n : Nat} {μ' : mM} (hd : d ≤ 1000) (hrun : xR (run d) 132 n 0 [.ref 2, .null, .null, .null] [] (mu0 L xs) (some (.int 1)) μ') (hN : μ'.1.1 ≤ 600000) (hS : μ'.1.2.1 ≤ 7302249) : W p l e room_1 s m #[Value.ref b] below meth c s.heap [] 0 0 (lw_Z below #[Value.ref b] s) (entryFrame m ([Value.ref b] : List Value).toArray 4) := by
  obtain ⟨hx, hb, hr, hml, hown, hts, hX, hbl, hlocks, hgv⟩ := C0
  have hfl := flat_of_before _ hgv
  have htg : ∀ w ∈ gT, w.before #[Value.ref b] s = true := fun w hw => hts w (List.mem_filter.mp hw).1
  have hA : ∀ a : Nat, a < s.heap.size → ¬ (fun q : Nat => s.heap.size ≤ q) a := fun a h => Nat.not_le.mpr h
  -- the classes
  have hcl : ∀ ci : Nat, ∃ q : ClassId × (Nat → Nat), ci < 6 → u_Kn s (vC ci).1 (vC ci).2.1 (vC ci).2.2 q.1 q.2 := by
    intro ci
    by_cases h : ci < 6
    · obtain ⟨cC, iS, h1⟩ := u_known (n := (vC ci).2.2) htg (cl_ws h) (htg _ (cl_inst h).1)
      exact ⟨(cC, iS), fun _ => h1⟩
    · exact ⟨(0, fun _ => 0), fun q => absurd q h⟩
  obtain ⟨fD, hfD⟩ := Classical.axiomOfChoice hcl
  -- the array classes
  obtain ⟨cI, kI, pI, i1, i2, i3⟩ := Cond.arrayClass_spec (htg _ arr_in.1)
  obtain ⟨cZ, kZ, pZ, z1, z2, z3⟩ := Cond.arrayClass_spec (htg _ arr_in.2)
  have hao1 : (Cond.arrayOver (.object "EvenWords$Walk")).before #[Value.ref b] s = true := hts _ (lw_word (i := 130 + npv) (by decide +kernel))
  have hao2 : (Cond.arrayOver (.object "EvenWords$Wire")).before #[Value.ref b] s = true := hts _ (lw_word (i := 53 + npv) (by decide +kernel))
  obtain ⟨pK, cK, kK, k1, -, k2, k3, k4⟩ := Cond.arrayOver_spec hao1
  obtain ⟨pW, cW, kW, u1, -, u2, u3, u4⟩ := Cond.arrayOver_spec hao2
  -- the static arrays
  obtain ⟨aA, vA, tA⟩ := va_Tof (N := 34) (f := fun j => .int (iI (asA.getD j 0))) (by decide) (hfl _ law_len.2.2.1) (va_eqt (hfl _ law_len.1)) (fun j hj => va_eqt (hfl _ (law_asA j hj))) hA
  obtain ⟨aM, vM, tM⟩ := va_Tof (N := 64) (f := fun j => .int (iI (asM.getD j 0))) (by decide) (hfl _ law_len.2.2.2) (va_eqt (hfl _ law_len.2.1)) (fun j hj => va_eqt (hfl _ (law_asM j hj))) hA
  have hini : (Cond.initialized "EvenWords$Forms").before #[Value.ref b] s = true := hts _ (lw_word (i := 7 + npv) (by decide +kernel))
  have hZA := va_Zref (hts _ (lw_word (i := 252 + npv) (by decide +kernel))) hini vA hA
  have hZM := va_Zref (hts _ (lw_word (i := 363 + npv) (by decide +kernel))) hini vM hA
  -- the parameters
  obtain ⟨G, hG⟩ : ∃ G : sG, G = (((fun ci => (fD ci).1), (fun ci => (fD ci).2)), (fun k => if k = 6 then cI else if k = 7 then cZ else if k = 8 then cK else cW), (fun k => if k = 0 then aA else if k = 1 then aM else if k = 2 then b else s.heap.size)) := ⟨_, rfl⟩
  have hG3 : G.2.2 3 = s.heap.size := by rw [hG]; rfl
  have hGa : aG G = fun q : Nat => s.heap.size ≤ q := by funext q; show (G.2.2 3 ≤ q) = _; rw [hG3]
  have hK : va_K G.1 vwCl (tysG G) s := by
    refine ⟨fun k q hq => ?_, fun k q hq => ?_⟩
    · have hk : k < 6 := (List.getElem?_eq_some_iff.mp hq).1
      have h1 := vw_at hk
      rw [h1] at hq
      cases hq
      rw [hG]
      exact hfD k hk
    · have e : tysG G = [(cI, .int), (cZ, .boolean), (cK, .object "EvenWords$Walk"), (cW, .object "EvenWords$Wire")] := by rw [hG]; rfl
      rw [e] at hq
      match k, hq with
      | 0, hq => cases hq; exact ⟨fun n z => ⟨fun k h => (by cases h), kI, i2, pI, i3⟩, i1⟩
      | 1, hq => cases hq; exact ⟨fun n z => ⟨fun k h => (by cases h), kZ, z2, pZ, z3⟩, z1⟩
      | 2, hq => cases hq; exact ⟨fun n z => ⟨fun k h => (by cases h), kK, k2, pK, k3⟩, kK, pK, k2, k3, k1, k4⟩
      | 3, hq => cases hq; exact ⟨fun n z => ⟨fun k h => (by cases h), kW, u2, pW, u3⟩, kW, pW, u2, u3, u1, u4⟩
      | n + 4, hq => simp at hq
  have hE : rE G (mu0 L xs) s := by
    refine ⟨fun i hi => ?_, ?_, ?_, hao1, hao2, fun q hq hn => ?_⟩
    · rw [hGa]
      match i, hi with
      | 0, _ => rw [hG]; exact tA
      | 1, _ => rw [hG]; exact tM
      | 2, _ =>
        rw [hG]
        obtain ⟨scr, h1, h2, h3, h4, h5⟩ := hX
        exact ⟨scr, h1, h2, h3, by rw [h4]; exact Nat.le_refl _, by rw [h4]; rfl, h5, hA b hbl⟩
      | n + 3, hi => omega
    · rw [hGa, hG]; exact hZA
    · rw [hGa, hG]; exact hZM
    · have h2 := chkC_all hq
      simp only [chkC, Bool.and_eq_true, decide_eq_true_eq] at h2
      rw [if_pos hn] at h2
      simp only [Bool.and_eq_true, decide_eq_true_eq] at h2
      exact va_Nw.of (w := nestW q) rfl (hts _ (lw_word h2.2.1))
  have F : fixd p room_1 s m #[Value.ref b] meth c G 132 := ⟨hx, hb, hml, hown, htg, fun q => absurd q (by decide), hK, by rw [hG3]; exact Nat.le_refl _, by decide, by decide⟩
  have hent := lr_entry (G := G) (k := 132) (a := [.ref 2]) rfl (by decide) (fun v hv => by rw [List.mem_singleton.mp hv]; rfl)
  have had : ad G 2 = b := by rw [hG]; rfl
  rw [lg_entry_eq]
  rw [show ([Value.ref 2].map (sh G)) = [Value.ref b] from by rw [← had]; rfl] at hent
  refine xw (M := 132) (G := G) (N0 := 3) (S0 := 0) (v := some (.int 1)) (μ' := μ') (snd_all l d) F (by show d + 1 ≤ 2048; omega) (by show 64 * d + 60 ≤ 84000; omega) (by show _ ≤ 600000 + 3; omega) (by show _ ≤ 7302249 + 0; omega) ?_ n 0 _ [] (mu0 L xs) s.heap [] 0 0 _ hrun ⟨mu0_ly L xs, by rw [hG3]; rfl, fun k q h => by simp [wsG, mu0] at h, va_S.rf, hE⟩ hent rfl rfl
  intro pc' len i st' H' locs' cells' slots' ls' hd' hl hret hI hc hs
  rcases rt_cases hret with ⟨rfl, x, rfl, hv, -⟩ | ⟨rfl, rfl, hv, -⟩
  · cases hl
    cases hv
    refine va_forget (fun q hq => by have := hI.2.2.2.1.2.2 q hq; rw [hGa] at this; exact this) ?_
    refine W.widen (k := 600000) (n := 7302249) (by omega) (by omega) ?_
    exact lw_ret hx hb hr hlocks hd'
  · cases hv
end
section
theorem whole_start {p : Program} {e : Env} {s : State} {m : MethodId} {below : List Frame} {meth : Method} {c : Code} (l : Launch) (hflags : l.flags = flags0) {b L : Nat} {xs : Nat → Int32} (hL : L ≤ 2560) (C0 : lw_At p s m meth c b L xs) : W p l e room_1 s m #[Value.ref b] below meth c s.heap [] 0 0 (lw_Z below #[Value.ref b] s) (entryFrame m ([Value.ref b] : List Value).toArray 4) := by
  obtain ⟨n, v, μ', h, rfl, hN, hS⟩ := law_pure L xs hL
  exact law_sound l C0 (d := 40) (by decide) h hN hS
-- ===== YOUR PART ENDS =====
set_option maxHeartbeats 4000000 in
theorem lw_walk (l : Launch) (hflags : l.flags = flags0) (b : Addr) (xs : List Int32) : MetFree l x (headSpec (Jvm.Cond.code x code maxLocals ret :: tables_1) room_1) (lw_P b xs) (fun _ _ _ _ _ => True) lw_Q := by
  refine MetFree.of_bodyS (code := code) (maxLocals := maxLocals) (ret := ret) (by decide) ?_ ?_
  · intro args s m h hn
    obtain ⟨meth, c, h1, h2, h3, h4, h5, h6, -, -⟩ := Cond.code_spec hn (atoms_spec (ws := Jvm.Cond.code x code maxLocals ret :: tables_1) h _ List.mem_cons_self)
    exact ⟨meth, c, h1, h2, h3, h4, h5, h6⟩
  · intro p e s m args below meth c s₁ B hml0 hP _
    obtain ⟨rfl, hx, hbd, hgv⟩ := hP
    obtain ⟨scr, harrAt, hlist, hof, hsmall⟩ := hx
    obtain ⟨hcb, hkn, -, -⟩ := State.arrayAt?_spec harrAt
    have hown : s.vm.findClass R_law = some m.cls := findClass_of_methodNamed B.named
    have hts0 : ∀ c ∈ (Jvm.Cond.code x code maxLocals ret :: tables_1), c.before #[Value.ref b] s = true := atoms_spec (ws := Jvm.Cond.code x code maxLocals ret :: tables_1) B.pre
    have hts : ∀ w ∈ lw_tbl, w.before #[Value.ref b] s = true := k2_hts_sels lw_privs (fun w hw => hts0 w (List.mem_cons_of_mem _ hw)) lw_privs_ok
    have hml : c.maxLocals = 4 := B.maxLocals_eq (hts0 _ List.mem_cons_self)
    have X₀ : Stand p l e room_1 s m #[Value.ref b] below meth c s₁ [] 0 0 := Stand.of_body B
    have hh0 : s₁.heap = s.heap := by rw [B.state]; rfl
    have hsz : scr.slots.size = xs.length := by rw [← Array.length_toList, hlist, List.length_map]
    have hval : ∀ j : Nat, j < xs.length → scr.slots[j]? = some (.int (xs.getD j 0)) := fun j hj => by
      rw [← Array.getElem?_toList, hlist]
      simp [hj]
    have hbl : b < s.heap.size := (Array.getElem?_eq_some_iff.mp hcb).1
    have hX : va_X b xs.length (fun j => xs.getD j 0) s s.heap := ⟨scr, hcb, hof, hkn, hsz, hval⟩
    have K : W p l e room_1 s m #[Value.ref b] below meth c s₁.heap [] 0 0 (lw_Z below #[Value.ref b] s) (entryFrame m ([Value.ref b] : List Value).toArray 4) := by
      rw [hh0]
      exact whole_start l hflags hbd ⟨B.exec, B.bytes, B.returns, hml, hown, hts, hX, hbl, B.notSynchronized, hgv⟩
    obtain ⟨t, a1, o, b1, b2, b3⟩ := K s₁ rfl X₀
    exact ⟨t, o, a1, b1, b2, b3⟩
theorem lw_pre_spec {args : Array Value} {s : State} (h : (Jvm.Cond.and given_1 narrow_1).before args s = true) (hr : rest_1_c.before args s = true) : ∃ (b : Addr) (xs : List Int32), lw_P b xs args s := by
  have hs := flat_of_before _ h
  have hq := flat_of_before _ hr
  have hc : (Cond.count 1).before args s = true := hs _ (by decide +kernel)
  have harr : (Cond.arrayOf (.arg 0) .int).before args s = true := hs _ (by decide +kernel)
  have hle : (Cond.le (.length (.arg 0)) (.int 2560)).before args s = true := hs _ (by decide +kernel)
  have hlen : (Cond.isInt (.length (.arg 0))).before args s = true := hq _ (by decide +kernel)
  have hall : (Cond.all (.arg 0) (.isInt (.elem (.arg 0) (.index 0)))).before args s = true := hq _ (by decide +kernel)
  obtain ⟨b, xs, hb, hx⟩ := State.ints_of_pre rfl harr hlen hall
  have hsm : xs.length < 2 ^ 31 := hx.choose_spec.2.2.2
  have hev : (Term.length (.arg 0)).eval args s none [] s = some (.int xs.length.toInt32) := hx.length_eval hb
  have hv := Cond.le_ints hev (show (Term.int 2560).eval args s none [] s = some (.int 2560) from rfl)
  have hd : xs.length.toInt32 ≤ 2560 := by
    simpa [Cond.before, Cond.holds, hv] using hle
  have hN : xs.length ≤ 2560 := (Int32.ofNat_le_ofNat hsm (by decide)).mp (show Int32.ofNat xs.length ≤ Int32.ofNat 2560 from hd)
  exact ⟨b, xs, Cond.one_arg hc (show args[0]? = some (.ref b) from hb), hx, hN, h⟩
theorem lw_comes (l : Launch) (hflags : l.flags = flags0) : Comes l x (Jvm.Cond.code x code maxLocals ret :: tables_1) room_1 (fun tb e args s => Calls_1 tb e args s ∧ rest_1 tb e args s ∧ Pre_1 tb e args s)
    (fun _ _ args s o t => lw_Q args s o t) := by
  intro p e ha hc hk s m args below hf hfit hheap happ hpre
  obtain ⟨b, xs, hP⟩ := lw_pre_spec hpre.2.2 hpre.2.1
  obtain ⟨k, o, h1, h2, h3, hQ⟩ := lw_walk l hflags b xs p e ha hc hk s m args below hf ((Spec.applies_iff_loose hf).mp happ).1 hP trivial
  exact ⟨k, o, h1, h2, h3, hQ⟩
theorem lw_frame {s t : State} {o : Outcome} {args : Array Value} (h : Framed s o t [] 600000 7302249) :
    Framed s o t (fieldLocs frame_1_writes args s ++ arrayLocs frame_1_arrays args s ++ staticLocs frame_1_statics s) 600000 7302249 := h
theorem lw_limb (L : Cond) (hL : ∀ (args : Array Value) (s t : State), L.after args s (.returned (some (.int 1))) t = true) :
    ArmFor flags0 classFile x code maxLocals ret World_1 tables_1 room_1 Calls_1 rest_1 Pre_1
      (fun tb e a s o t => postC L tb e a s o t ∧ Framed s o t (fieldLocs frame_1_writes a s ++ arrayLocs frame_1_arrays a s ++ staticLocs frame_1_statics s) 600000 7302249) := by
  intro l hflags _ _ p e ha hc hk s m args below hf hfit hheap happ hpre
  obtain ⟨k, o, h1, h2, h3, rfl, hF⟩ := lw_comes l hflags p e ha hc hk s m args below hf hfit hheap happ hpre
  exact ⟨k, _, h1, h2, h3, hL args s _, lw_frame hF⟩
theorem i_vc : Claimed_1_1 ∧ Claimed_1_2 := ⟨lw_limb limb_1_1 (fun args s t => by simp [limb_1_1, Cond.after, Cond.holds, Cond.value]), lw_limb limb_1_2 (fun args s t => Cond.after_iff.mpr (by
  first | (rw [show limb_1_2 = Cond.eq .result (.int 1) from rfl, Cond.eq_ints (x := 1) (y := 1) rfl rfl]; simp; done) | (simp [limb_1_2, Cond.value, Term.eval]; done)))⟩
end
