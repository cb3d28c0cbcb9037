section
-- ===== PART A: goes FIRST, ahead of the names: the tables' words, and 'selects' of the private methods out of them =====
/-- a private method of a class that the tables say can be made, by its rows of tables_1 -/
def lw_okq (q : MethodName × Nat) : Prop := (q.1.cls ≠ "java/lang/invoke/MethodHandle" ∧ q.1.cls ≠ "java/lang/invoke/VarHandle") ∧ Cond.instantiable q.1.cls q.2 ∈ tables_1 ∧ Cond.privateMethod q.1 ∈ tables_1 ∧ Cond.instanceMethod q.1 ∈ tables_1
theorem lw_p0 : lw_okq (⟨"EvenWords", "faultPlace", "()I"⟩, 12) := ⟨⟨by decide +kernel, by decide +kernel⟩, List.mem_of_getElem? (i := 11) (by decide +kernel), List.mem_of_getElem? (i := 204) (by decide +kernel), List.mem_of_getElem? (i := 205) (by decide +kernel)⟩
theorem lw_p1 : lw_okq (⟨"EvenWords", "tokenEnd", "(I)I"⟩, 12) := ⟨⟨by decide +kernel, by decide +kernel⟩, List.mem_of_getElem? (i := 11) (by decide +kernel), List.mem_of_getElem? (i := 208) (by decide +kernel), List.mem_of_getElem? (i := 209) (by decide +kernel)⟩
theorem lw_p2 : lw_okq (⟨"EvenWords", "isFigure", "(I)Z"⟩, 12) := ⟨⟨by decide +kernel, by decide +kernel⟩, List.mem_of_getElem? (i := 11) (by decide +kernel), List.mem_of_getElem? (i := 212) (by decide +kernel), List.mem_of_getElem? (i := 213) (by decide +kernel)⟩
theorem lw_p3 : lw_okq (⟨"EvenWords", "afterToken", "(III)I"⟩, 12) := ⟨⟨by decide +kernel, by decide +kernel⟩, List.mem_of_getElem? (i := 11) (by decide +kernel), List.mem_of_getElem? (i := 216) (by decide +kernel), List.mem_of_getElem? (i := 217) (by decide +kernel)⟩
theorem lw_p4 : lw_okq (⟨"EvenWords", "numberAt", "(II)I"⟩, 12) := ⟨⟨by decide +kernel, by decide +kernel⟩, List.mem_of_getElem? (i := 11) (by decide +kernel), List.mem_of_getElem? (i := 220) (by decide +kernel), List.mem_of_getElem? (i := 221) (by decide +kernel)⟩
theorem lw_p5 : lw_okq (⟨"EvenWords", "afterNumber", "(III)I"⟩, 12) := ⟨⟨by decide +kernel, by decide +kernel⟩, List.mem_of_getElem? (i := 11) (by decide +kernel), List.mem_of_getElem? (i := 224) (by decide +kernel), List.mem_of_getElem? (i := 225) (by decide +kernel)⟩
theorem lw_p6 : lw_okq (⟨"EvenWords", "remember", "()V"⟩, 12) := ⟨⟨by decide +kernel, by decide +kernel⟩, List.mem_of_getElem? (i := 11) (by decide +kernel), List.mem_of_getElem? (i := 228) (by decide +kernel), List.mem_of_getElem? (i := 229) (by decide +kernel)⟩
theorem lw_p7 : lw_okq (⟨"EvenWords", "forgetOldest", "()V"⟩, 12) := ⟨⟨by decide +kernel, by decide +kernel⟩, List.mem_of_getElem? (i := 11) (by decide +kernel), List.mem_of_getElem? (i := 232) (by decide +kernel), List.mem_of_getElem? (i := 233) (by decide +kernel)⟩
theorem lw_p8 : lw_okq (⟨"EvenWords$Wire", "noteMark", "(I)V"⟩, 7) := ⟨⟨by decide +kernel, by decide +kernel⟩, List.mem_of_getElem? (i := 19) (by decide +kernel), List.mem_of_getElem? (i := 263) (by decide +kernel), List.mem_of_getElem? (i := 264) (by decide +kernel)⟩
theorem lw_p9 : lw_okq (⟨"EvenWords", "sendOne", "(I)I"⟩, 12) := ⟨⟨by decide +kernel, by decide +kernel⟩, List.mem_of_getElem? (i := 11) (by decide +kernel), List.mem_of_getElem? (i := 271) (by decide +kernel), List.mem_of_getElem? (i := 272) (by decide +kernel)⟩
theorem lw_p10 : lw_okq (⟨"EvenWords$Walk", "formBreach", "(I)I"⟩, 5) := ⟨⟨by decide +kernel, by decide +kernel⟩, List.mem_of_getElem? (i := 61) (by decide +kernel), List.mem_of_getElem? (i := 388) (by decide +kernel), List.mem_of_getElem? (i := 389) (by decide +kernel)⟩
theorem lw_p11 : lw_okq (⟨"EvenWords$Reading", "isRightTurned", "(II)Z"⟩, 10) := ⟨⟨by decide +kernel, by decide +kernel⟩, List.mem_of_getElem? (i := 55) (by decide +kernel), List.mem_of_getElem? (i := 423) (by decide +kernel), List.mem_of_getElem? (i := 424) (by decide +kernel)⟩
theorem lw_p12 : lw_okq (⟨"EvenWords$Orders", "walkAhead", "(LEvenWords$Wire;I)V"⟩, 6) := ⟨⟨by decide +kernel, by decide +kernel⟩, List.mem_of_getElem? (i := 124) (by decide +kernel), List.mem_of_getElem? (i := 456) (by decide +kernel), List.mem_of_getElem? (i := 457) (by decide +kernel)⟩
theorem lw_p13 : lw_okq (⟨"EvenWords$Orders", "settle", "(I)V"⟩, 6) := ⟨⟨by decide +kernel, by decide +kernel⟩, List.mem_of_getElem? (i := 124) (by decide +kernel), List.mem_of_getElem? (i := 465) (by decide +kernel), List.mem_of_getElem? (i := 466) (by decide +kernel)⟩
theorem lw_p14 : lw_okq (⟨"EvenWords", "longestRun", "()I"⟩, 12) := ⟨⟨by decide +kernel, by decide +kernel⟩, List.mem_of_getElem? (i := 11) (by decide +kernel), List.mem_of_getElem? (i := 502) (by decide +kernel), List.mem_of_getElem? (i := 503) (by decide +kernel)⟩
theorem lw_p15 : lw_okq (⟨"EvenWordsModel", "bares", "()V"⟩, 32) := ⟨⟨by decide +kernel, by decide +kernel⟩, List.mem_of_getElem? (i := 510) (by decide +kernel), List.mem_of_getElem? (i := 516) (by decide +kernel), List.mem_of_getElem? (i := 517) (by decide +kernel)⟩
def lw_privs_1 : List (MethodName × Nat) := [(⟨"EvenWords", "faultPlace", "()I"⟩, 12), (⟨"EvenWords", "tokenEnd", "(I)I"⟩, 12), (⟨"EvenWords", "isFigure", "(I)Z"⟩, 12), (⟨"EvenWords", "afterToken", "(III)I"⟩, 12), (⟨"EvenWords", "numberAt", "(II)I"⟩, 12), (⟨"EvenWords", "afterNumber", "(III)I"⟩, 12), (⟨"EvenWords", "remember", "()V"⟩, 12), (⟨"EvenWords", "forgetOldest", "()V"⟩, 12), (⟨"EvenWords$Wire", "noteMark", "(I)V"⟩, 7), (⟨"EvenWords", "sendOne", "(I)I"⟩, 12), (⟨"EvenWords$Walk", "formBreach", "(I)I"⟩, 5), (⟨"EvenWords$Reading", "isRightTurned", "(II)Z"⟩, 10), (⟨"EvenWords$Orders", "walkAhead", "(LEvenWords$Wire;I)V"⟩, 6), (⟨"EvenWords$Orders", "settle", "(I)V"⟩, 6), (⟨"EvenWords", "longestRun", "()I"⟩, 12), (⟨"EvenWordsModel", "bares", "()V"⟩, 32)]
theorem lw_r1 : ∀ q ∈ lw_privs_1, lw_okq q := List.forall_mem_cons.mpr ⟨lw_p0, List.forall_mem_cons.mpr ⟨lw_p1, List.forall_mem_cons.mpr ⟨lw_p2, List.forall_mem_cons.mpr ⟨lw_p3, List.forall_mem_cons.mpr ⟨lw_p4, List.forall_mem_cons.mpr ⟨lw_p5, List.forall_mem_cons.mpr ⟨lw_p6, List.forall_mem_cons.mpr ⟨lw_p7, List.forall_mem_cons.mpr ⟨lw_p8, List.forall_mem_cons.mpr ⟨lw_p9, List.forall_mem_cons.mpr ⟨lw_p10, List.forall_mem_cons.mpr ⟨lw_p11, List.forall_mem_cons.mpr ⟨lw_p12, List.forall_mem_cons.mpr ⟨lw_p13, List.forall_mem_cons.mpr ⟨lw_p14, List.forall_mem_cons.mpr ⟨lw_p15, fun _ h => absurd h List.not_mem_nil⟩⟩⟩⟩⟩⟩⟩⟩⟩⟩⟩⟩⟩⟩⟩⟩
theorem lw_p16 : lw_okq (⟨"EvenWordsModel", "readsText", "()V"⟩, 32) := ⟨⟨by decide +kernel, by decide +kernel⟩, List.mem_of_getElem? (i := 510) (by decide +kernel), List.mem_of_getElem? (i := 632) (by decide +kernel), List.mem_of_getElem? (i := 633) (by decide +kernel)⟩
theorem lw_p17 : lw_okq (⟨"EvenWordsModel", "advances", "()V"⟩, 32) := ⟨⟨by decide +kernel, by decide +kernel⟩, List.mem_of_getElem? (i := 510) (by decide +kernel), List.mem_of_getElem? (i := 636) (by decide +kernel), List.mem_of_getElem? (i := 637) (by decide +kernel)⟩
theorem lw_p18 : lw_okq (⟨"EvenWordsModel", "letterAt", "(I)I"⟩, 32) := ⟨⟨by decide +kernel, by decide +kernel⟩, List.mem_of_getElem? (i := 510) (by decide +kernel), List.mem_of_getElem? (i := 640) (by decide +kernel), List.mem_of_getElem? (i := 641) (by decide +kernel)⟩
theorem lw_p19 : lw_okq (⟨"EvenWordsModel", "takes", "(Z)I"⟩, 32) := ⟨⟨by decide +kernel, by decide +kernel⟩, List.mem_of_getElem? (i := 510) (by decide +kernel), List.mem_of_getElem? (i := 644) (by decide +kernel), List.mem_of_getElem? (i := 645) (by decide +kernel)⟩
theorem lw_p20 : lw_okq (⟨"EvenWordsModel", "notes", "()V"⟩, 32) := ⟨⟨by decide +kernel, by decide +kernel⟩, List.mem_of_getElem? (i := 510) (by decide +kernel), List.mem_of_getElem? (i := 648) (by decide +kernel), List.mem_of_getElem? (i := 649) (by decide +kernel)⟩
theorem lw_p21 : lw_okq (⟨"EvenWordsModel", "sent", "(I)I"⟩, 32) := ⟨⟨by decide +kernel, by decide +kernel⟩, List.mem_of_getElem? (i := 510) (by decide +kernel), List.mem_of_getElem? (i := 652) (by decide +kernel), List.mem_of_getElem? (i := 653) (by decide +kernel)⟩
theorem lw_p22 : lw_okq (⟨"EvenWordsModel", "remembers", "(I)V"⟩, 32) := ⟨⟨by decide +kernel, by decide +kernel⟩, List.mem_of_getElem? (i := 510) (by decide +kernel), List.mem_of_getElem? (i := 668) (by decide +kernel), List.mem_of_getElem? (i := 669) (by decide +kernel)⟩
theorem lw_p23 : lw_okq (⟨"EvenWordsModel", "isBit", "(I)Z"⟩, 32) := ⟨⟨by decide +kernel, by decide +kernel⟩, List.mem_of_getElem? (i := 510) (by decide +kernel), List.mem_of_getElem? (i := 684) (by decide +kernel), List.mem_of_getElem? (i := 685) (by decide +kernel)⟩
theorem lw_p24 : lw_okq (⟨"EvenWordsModel", "reads", "(III)V"⟩, 32) := ⟨⟨by decide +kernel, by decide +kernel⟩, List.mem_of_getElem? (i := 510) (by decide +kernel), List.mem_of_getElem? (i := 722) (by decide +kernel), List.mem_of_getElem? (i := 723) (by decide +kernel)⟩
theorem lw_p25 : lw_okq (⟨"EvenWordsModel", "lays", "()V"⟩, 32) := ⟨⟨by decide +kernel, by decide +kernel⟩, List.mem_of_getElem? (i := 510) (by decide +kernel), List.mem_of_getElem? (i := 726) (by decide +kernel), List.mem_of_getElem? (i := 727) (by decide +kernel)⟩
theorem lw_p26 : lw_okq (⟨"EvenWordsModel", "bitAt", "(II)I"⟩, 32) := ⟨⟨by decide +kernel, by decide +kernel⟩, List.mem_of_getElem? (i := 510) (by decide +kernel), List.mem_of_getElem? (i := 730) (by decide +kernel), List.mem_of_getElem? (i := 731) (by decide +kernel)⟩
theorem lw_p27 : lw_okq (⟨"EvenWordsModel", "firstBreach", "()I"⟩, 32) := ⟨⟨by decide +kernel, by decide +kernel⟩, List.mem_of_getElem? (i := 510) (by decide +kernel), List.mem_of_getElem? (i := 739) (by decide +kernel), List.mem_of_getElem? (i := 740) (by decide +kernel)⟩
theorem lw_p28 : lw_okq (⟨"EvenWordsModel", "blames", "(II)V"⟩, 32) := ⟨⟨by decide +kernel, by decide +kernel⟩, List.mem_of_getElem? (i := 510) (by decide +kernel), List.mem_of_getElem? (i := 743) (by decide +kernel), List.mem_of_getElem? (i := 744) (by decide +kernel)⟩
theorem lw_p29 : lw_okq (⟨"EvenWordsModel", "laysLevels", "()V"⟩, 32) := ⟨⟨by decide +kernel, by decide +kernel⟩, List.mem_of_getElem? (i := 510) (by decide +kernel), List.mem_of_getElem? (i := 756) (by decide +kernel), List.mem_of_getElem? (i := 757) (by decide +kernel)⟩
theorem lw_p30 : lw_okq (⟨"EvenWordsModel", "evenestOf", "(I)I"⟩, 32) := ⟨⟨by decide +kernel, by decide +kernel⟩, List.mem_of_getElem? (i := 510) (by decide +kernel), List.mem_of_getElem? (i := 764) (by decide +kernel), List.mem_of_getElem? (i := 765) (by decide +kernel)⟩
theorem lw_p31 : lw_okq (⟨"EvenWordsModel", "laysAhead", "(I)V"⟩, 32) := ⟨⟨by decide +kernel, by decide +kernel⟩, List.mem_of_getElem? (i := 510) (by decide +kernel), List.mem_of_getElem? (i := 768) (by decide +kernel), List.mem_of_getElem? (i := 769) (by decide +kernel)⟩
def lw_privs_2 : List (MethodName × Nat) := [(⟨"EvenWordsModel", "readsText", "()V"⟩, 32), (⟨"EvenWordsModel", "advances", "()V"⟩, 32), (⟨"EvenWordsModel", "letterAt", "(I)I"⟩, 32), (⟨"EvenWordsModel", "takes", "(Z)I"⟩, 32), (⟨"EvenWordsModel", "notes", "()V"⟩, 32), (⟨"EvenWordsModel", "sent", "(I)I"⟩, 32), (⟨"EvenWordsModel", "remembers", "(I)V"⟩, 32), (⟨"EvenWordsModel", "isBit", "(I)Z"⟩, 32), (⟨"EvenWordsModel", "reads", "(III)V"⟩, 32), (⟨"EvenWordsModel", "lays", "()V"⟩, 32), (⟨"EvenWordsModel", "bitAt", "(II)I"⟩, 32), (⟨"EvenWordsModel", "firstBreach", "()I"⟩, 32), (⟨"EvenWordsModel", "blames", "(II)V"⟩, 32), (⟨"EvenWordsModel", "laysLevels", "()V"⟩, 32), (⟨"EvenWordsModel", "evenestOf", "(I)I"⟩, 32), (⟨"EvenWordsModel", "laysAhead", "(I)V"⟩, 32)]
theorem lw_r2 : ∀ q ∈ lw_privs_2, lw_okq q := List.forall_mem_cons.mpr ⟨lw_p16, List.forall_mem_cons.mpr ⟨lw_p17, List.forall_mem_cons.mpr ⟨lw_p18, List.forall_mem_cons.mpr ⟨lw_p19, List.forall_mem_cons.mpr ⟨lw_p20, List.forall_mem_cons.mpr ⟨lw_p21, List.forall_mem_cons.mpr ⟨lw_p22, List.forall_mem_cons.mpr ⟨lw_p23, List.forall_mem_cons.mpr ⟨lw_p24, List.forall_mem_cons.mpr ⟨lw_p25, List.forall_mem_cons.mpr ⟨lw_p26, List.forall_mem_cons.mpr ⟨lw_p27, List.forall_mem_cons.mpr ⟨lw_p28, List.forall_mem_cons.mpr ⟨lw_p29, List.forall_mem_cons.mpr ⟨lw_p30, List.forall_mem_cons.mpr ⟨lw_p31, fun _ h => absurd h List.not_mem_nil⟩⟩⟩⟩⟩⟩⟩⟩⟩⟩⟩⟩⟩⟩⟩⟩
theorem lw_p32 : lw_okq (⟨"EvenWordsModel", "lengthens", "(I)V"⟩, 32) := ⟨⟨by decide +kernel, by decide +kernel⟩, List.mem_of_getElem? (i := 510) (by decide +kernel), List.mem_of_getElem? (i := 772) (by decide +kernel), List.mem_of_getElem? (i := 773) (by decide +kernel)⟩
theorem lw_p33 : lw_okq (⟨"EvenWordsModel", "isOrder", "(II)Z"⟩, 32) := ⟨⟨by decide +kernel, by decide +kernel⟩, List.mem_of_getElem? (i := 510) (by decide +kernel), List.mem_of_getElem? (i := 776) (by decide +kernel), List.mem_of_getElem? (i := 777) (by decide +kernel)⟩
theorem lw_p34 : lw_okq (⟨"EvenWordsModel", "oneMany", "()I"⟩, 32) := ⟨⟨by decide +kernel, by decide +kernel⟩, List.mem_of_getElem? (i := 510) (by decide +kernel), List.mem_of_getElem? (i := 798) (by decide +kernel), List.mem_of_getElem? (i := 799) (by decide +kernel)⟩
theorem lw_p35 : lw_okq (⟨"EvenWordsModel", "turnedMany", "()I"⟩, 32) := ⟨⟨by decide +kernel, by decide +kernel⟩, List.mem_of_getElem? (i := 510) (by decide +kernel), List.mem_of_getElem? (i := 802) (by decide +kernel), List.mem_of_getElem? (i := 803) (by decide +kernel)⟩
theorem lw_p36 : lw_okq (⟨"EvenWordsModel", "longest", "()I"⟩, 32) := ⟨⟨by decide +kernel, by decide +kernel⟩, List.mem_of_getElem? (i := 510) (by decide +kernel), List.mem_of_getElem? (i := 806) (by decide +kernel), List.mem_of_getElem? (i := 807) (by decide +kernel)⟩
theorem lw_p37 : lw_okq (⟨"EvenWordsModel", "markMany", "()I"⟩, 32) := ⟨⟨by decide +kernel, by decide +kernel⟩, List.mem_of_getElem? (i := 510) (by decide +kernel), List.mem_of_getElem? (i := 810) (by decide +kernel), List.mem_of_getElem? (i := 811) (by decide +kernel)⟩
def lw_privs_3 : List (MethodName × Nat) := [(⟨"EvenWordsModel", "lengthens", "(I)V"⟩, 32), (⟨"EvenWordsModel", "isOrder", "(II)Z"⟩, 32), (⟨"EvenWordsModel", "oneMany", "()I"⟩, 32), (⟨"EvenWordsModel", "turnedMany", "()I"⟩, 32), (⟨"EvenWordsModel", "longest", "()I"⟩, 32), (⟨"EvenWordsModel", "markMany", "()I"⟩, 32)]
theorem lw_r3 : ∀ q ∈ lw_privs_3, lw_okq q := List.forall_mem_cons.mpr ⟨lw_p32, List.forall_mem_cons.mpr ⟨lw_p33, List.forall_mem_cons.mpr ⟨lw_p34, List.forall_mem_cons.mpr ⟨lw_p35, List.forall_mem_cons.mpr ⟨lw_p36, List.forall_mem_cons.mpr ⟨lw_p37, fun _ h => absurd h List.not_mem_nil⟩⟩⟩⟩⟩⟩
def lw_privs : List (MethodName × Nat) := lw_privs_1 ++ (lw_privs_2 ++ (lw_privs_3))
def lw_tbl : List Cond := k2_sels lw_privs ++ tables_1
theorem lw_privs_ok : ∀ q ∈ lw_privs, lw_okq q := by
  show ∀ q ∈ lw_privs_1 ++ (lw_privs_2 ++ (lw_privs_3)), lw_okq q
  exact List.forall_mem_append.mpr ⟨lw_r1, List.forall_mem_append.mpr ⟨lw_r2, lw_r3⟩⟩
def RX1 : String := "EvenWords$Orders"
def RX2 : String := "EvenWords$Reading"
def RX3 : String := "EvenWords$Walk"
def RX4 : String := "EvenWords$Wire"
def RX5 : String := "EvenWords"
def RX6 : String := "EvenWordsModel"
def RX0 : String := "EvenWords$Forms"
def TX1 : u_T := fun k => match k with
  | 0 => ("EvenWords$Orders", "walks", "[LEvenWords$Walk;", true)
  | 1 => ("EvenWords$Orders", "kinds", "[I", true)
  | 2 => ("EvenWords$Orders", "order", "[I", true)
  | 3 => ("EvenWords$Orders", "best", "[I", true)
  | 4 => ("EvenWords$Orders", "many", "I", false)
  | _ => ("EvenWords$Orders", "least", "I", false)
def tyX1 : Nat → FieldType := fun k => match k with
  | 0 => .array (.object "EvenWords$Walk")
  | 1 => .array .int
  | 2 => .array .int
  | 3 => .array .int
  | 4 => .int
  | _ => .int
theorem nmX1 : ∀ a, a < 6 → ∀ b, b < 6 → a ≠ b → (TX1 a).2.1 ≠ (TX1 b).2.1 := by decide +kernel
theorem tyX1_ok : ∀ k, k < 6 → parseFieldDescriptor (TX1 k).2.2.1 = some (tyX1 k) := by decide +kernel
def TX2 : u_T := fun k => match k with
  | 0 => ("EvenWords$Reading", "pieces", "[I", true)
  | 1 => ("EvenWords$Reading", "walk", "LEvenWords$Walk;", true)
  | 2 => ("EvenWords$Reading", "trial", "LEvenWords$Walk;", true)
  | 3 => ("EvenWords$Reading", "from", "I", false)
  | 4 => ("EvenWords$Reading", "begin", "I", false)
  | 5 => ("EvenWords$Reading", "many", "I", false)
  | 6 => ("EvenWords$Reading", "first", "I", false)
  | 7 => ("EvenWords$Reading", "broken", "I", false)
  | 8 => ("EvenWords$Reading", "blamed", "I", false)
  | _ => ("EvenWords$Reading", "lowest", "I", false)
def tyX2 : Nat → FieldType := fun k => match k with
  | 0 => .array .int
  | 1 => .object "EvenWords$Walk"
  | 2 => .object "EvenWords$Walk"
  | 3 => .int
  | 4 => .int
  | 5 => .int
  | 6 => .int
  | 7 => .int
  | 8 => .int
  | _ => .int
theorem nmX2 : ∀ a, a < 10 → ∀ b, b < 10 → a ≠ b → (TX2 a).2.1 ≠ (TX2 b).2.1 := by decide +kernel
theorem tyX2_ok : ∀ k, k < 10 → parseFieldDescriptor (TX2 k).2.2.1 = some (tyX2 k) := by decide +kernel
def TX3 : u_T := fun k => match k with
  | 0 => ("EvenWords$Walk", "sum", "I", false)
  | 1 => ("EvenWords$Walk", "height", "I", false)
  | 2 => ("EvenWords$Walk", "lastBit", "I", false)
  | 3 => ("EvenWords$Walk", "run", "I", false)
  | _ => ("EvenWords$Walk", "longest", "I", false)
def tyX3 : Nat → FieldType := fun k => match k with
  | 0 => .int
  | 1 => .int
  | 2 => .int
  | 3 => .int
  | _ => .int
theorem nmX3 : ∀ a, a < 5 → ∀ b, b < 5 → a ≠ b → (TX3 a).2.1 ≠ (TX3 b).2.1 := by decide +kernel
theorem tyX3_ok : ∀ k, k < 5 → parseFieldDescriptor (TX3 k).2.2.1 = some (tyX3 k) := by decide +kernel
def TX4 : u_T := fun k => match k with
  | 0 => ("EvenWords$Wire", "kinds", "[I", true)
  | 1 => ("EvenWords$Wire", "sent", "[I", true)
  | 2 => ("EvenWords$Wire", "now", "[I", true)
  | 3 => ("EvenWords$Wire", "words", "I", false)
  | 4 => ("EvenWords$Wire", "sum", "I", false)
  | 5 => ("EvenWords$Wire", "olderMark", "I", false)
  | _ => ("EvenWords$Wire", "latestMark", "I", false)
def tyX4 : Nat → FieldType := fun k => match k with
  | 0 => .array .int
  | 1 => .array .int
  | 2 => .array .int
  | 3 => .int
  | 4 => .int
  | 5 => .int
  | _ => .int
theorem nmX4 : ∀ a, a < 7 → ∀ b, b < 7 → a ≠ b → (TX4 a).2.1 ≠ (TX4 b).2.1 := by decide +kernel
theorem tyX4_ok : ∀ k, k < 7 → parseFieldDescriptor (TX4 k).2.2.1 = some (tyX4 k) := by decide +kernel
def TX5 : u_T := fun k => match k with
  | 0 => ("EvenWords", "wire", "LEvenWords$Wire;", true)
  | 1 => ("EvenWords", "earlier", "[LEvenWords$Wire;", true)
  | 2 => ("EvenWords", "images", "[LEvenWords$Wire;", true)
  | 3 => ("EvenWords", "kept", "[Z", true)
  | 4 => ("EvenWords", "text", "[I", true)
  | 5 => ("EvenWords", "told", "[I", true)
  | 6 => ("EvenWords", "reading", "LEvenWords$Reading;", true)
  | 7 => ("EvenWords", "orders", "LEvenWords$Orders;", true)
  | 8 => ("EvenWords", "walk", "LEvenWords$Walk;", true)
  | 9 => ("EvenWords", "letters", "I", false)
  | 10 => ("EvenWords", "items", "I", false)
  | _ => ("EvenWords", "undoable", "I", false)
def tyX5 : Nat → FieldType := fun k => match k with
  | 0 => .object "EvenWords$Wire"
  | 1 => .array (.object "EvenWords$Wire")
  | 2 => .array (.object "EvenWords$Wire")
  | 3 => .array .boolean
  | 4 => .array .int
  | 5 => .array .int
  | 6 => .object "EvenWords$Reading"
  | 7 => .object "EvenWords$Orders"
  | 8 => .object "EvenWords$Walk"
  | 9 => .int
  | 10 => .int
  | _ => .int
theorem nmX5 : ∀ a, a < 12 → ∀ b, b < 12 → a ≠ b → (TX5 a).2.1 ≠ (TX5 b).2.1 := by decide +kernel
theorem tyX5_ok : ∀ k, k < 12 → parseFieldDescriptor (TX5 k).2.2.1 = some (tyX5 k) := by decide +kernel
def TX6 : u_T := fun k => match k with
  | 0 => ("EvenWordsModel", "thrown", "I", false)
  | 1 => ("EvenWordsModel", "s", "[I", true)
  | 2 => ("EvenWordsModel", "past", "[I", true)
  | 3 => ("EvenWordsModel", "undoMany", "I", false)
  | 4 => ("EvenWordsModel", "images", "[I", true)
  | 5 => ("EvenWordsModel", "isKept", "[Z", true)
  | 6 => ("EvenWordsModel", "text", "[I", true)
  | 7 => ("EvenWordsModel", "typed", "I", false)
  | 8 => ("EvenWordsModel", "draft", "[I", true)
  | 9 => ("EvenWordsModel", "draftMany", "I", false)
  | 10 => ("EvenWordsModel", "meant", "[I", true)
  | 11 => ("EvenWordsModel", "inForm", "[I", true)
  | 12 => ("EvenWordsModel", "isLaid", "Z", false)
  | 13 => ("EvenWordsModel", "at", "I", false)
  | 14 => ("EvenWordsModel", "place", "I", false)
  | 15 => ("EvenWordsModel", "token", "I", false)
  | 16 => ("EvenWordsModel", "value", "I", false)
  | 17 => ("EvenWordsModel", "fault", "I", false)
  | 18 => ("EvenWordsModel", "pieces", "I", false)
  | 19 => ("EvenWordsModel", "number", "[I", true)
  | 20 => ("EvenWordsModel", "rightly", "[I", true)
  | 21 => ("EvenWordsModel", "breach", "[I", true)
  | 22 => ("EvenWordsModel", "sumBehind", "[I", true)
  | 23 => ("EvenWordsModel", "blamedMany", "I", false)
  | 24 => ("EvenWordsModel", "lowestBlamed", "I", false)
  | 25 => ("EvenWordsModel", "level", "[I", true)
  | 26 => ("EvenWordsModel", "tailSum", "I", false)
  | 27 => ("EvenWordsModel", "tailBit", "I", false)
  | 28 => ("EvenWordsModel", "tailRun", "I", false)
  | 29 => ("EvenWordsModel", "tailLongest", "I", false)
  | 30 => ("EvenWordsModel", "row", "[I", true)
  | _ => ("EvenWordsModel", "best", "[I", true)
def tyX6 : Nat → FieldType := fun k => match k with
  | 0 => .int
  | 1 => .array .int
  | 2 => .array .int
  | 3 => .int
  | 4 => .array .int
  | 5 => .array .boolean
  | 6 => .array .int
  | 7 => .int
  | 8 => .array .int
  | 9 => .int
  | 10 => .array .int
  | 11 => .array .int
  | 12 => .boolean
  | 13 => .int
  | 14 => .int
  | 15 => .int
  | 16 => .int
  | 17 => .int
  | 18 => .int
  | 19 => .array .int
  | 20 => .array .int
  | 21 => .array .int
  | 22 => .array .int
  | 23 => .int
  | 24 => .int
  | 25 => .array .int
  | 26 => .int
  | 27 => .int
  | 28 => .int
  | 29 => .int
  | 30 => .array .int
  | _ => .array .int
theorem nmX6 : ∀ a, a < 32 → ∀ b, b < 32 → a ≠ b → (TX6 a).2.1 ≠ (TX6 b).2.1 := by decide +kernel
theorem tyX6_ok : ∀ k, k < 32 → parseFieldDescriptor (TX6 k).2.2.1 = some (tyX6 k) := by decide +kernel
abbrev vwCl : List vw_C := [(RX1, TX1, 6), (RX2, TX2, 10), (RX3, TX3, 5), (RX4, TX4, 7), (RX5, TX5, 12), (RX6, TX6, 32)]
def mvTy : List (Nat → FieldType) := [tyX1, tyX2, tyX3, tyX4, tyX5, tyX6]
def mvOwn : List String := ["EvenWords$Orders", "EvenWords$Reading", "EvenWords$Walk", "EvenWords$Wire", "EvenWords", "EvenWordsModel", "EvenWords$Forms", "java/lang/Integer", "java/lang/Math", "EvenWordsLaw"]
def mvY : List MethodName := [⟨"EvenWords$Forms", "isKind", "(I)Z"⟩, ⟨"EvenWords$Forms", "formA", "(I)I"⟩, ⟨"EvenWords$Forms", "formB", "(I)I"⟩, ⟨"EvenWords$Forms", "formDue", "(II)I"⟩, ⟨"EvenWords$Forms", "meaning", "(I)I"⟩, ⟨"EvenWords$Forms", "isRight", "(II)Z"⟩, ⟨"EvenWords$Forms", "sumBehind", "(II)I"⟩, ⟨"EvenWords$Orders", "<init>", "()V"⟩, ⟨"EvenWords$Orders", "search", "(LEvenWords$Wire;I)V"⟩, ⟨"EvenWords$Orders", "walkAhead", "(LEvenWords$Wire;I)V"⟩, ⟨"EvenWords$Orders", "bestAt", "(I)I"⟩, ⟨"EvenWords$Orders", "arrange", "(LEvenWords$Orders;II)V"⟩, ⟨"EvenWords$Orders", "settle", "(I)V"⟩, ⟨"EvenWords$Reading", "<init>", "()V"⟩, ⟨"EvenWords$Reading", "load", "(LEvenWords$Wire;II)V"⟩, ⟨"EvenWords$Reading", "pieceAt", "(I)I"⟩, ⟨"EvenWords$Reading", "sumAhead", "(I)I"⟩, ⟨"EvenWords$Reading", "sumBehind", "(I)I"⟩, ⟨"EvenWords$Reading", "breachesAt", "(I)I"⟩, ⟨"EvenWords$Reading", "check", "()V"⟩, ⟨"EvenWords$Reading", "blame", "()V"⟩, ⟨"EvenWords$Reading", "isRightTurned", "(II)Z"⟩, ⟨"EvenWords$Reading", "late", "()I"⟩, ⟨"EvenWords$Walk", "<init>", "()V"⟩, ⟨"EvenWords$Walk", "start", "(I)V"⟩, ⟨"EvenWords$Walk", "become", "(LEvenWords$Walk;)V"⟩, ⟨"EvenWords$Walk", "step", "(I)V"⟩, ⟨"EvenWords$Walk", "take", "(I)I"⟩, ⟨"EvenWords$Walk", "formBreach", "(I)I"⟩, ⟨"EvenWords$Wire", "<init>", "()V"⟩, ⟨"EvenWords$Wire", "empty", "()V"⟩, ⟨"EvenWords$Wire", "carry", "(LEvenWords$Wire;LEvenWords$Wire;)V"⟩, ⟨"EvenWords$Wire", "send", "(I)I"⟩, ⟨"EvenWords$Wire", "noteMark", "(I)V"⟩, ⟨"EvenWords$Wire", "markSentLately", "(I)I"⟩, ⟨"EvenWords$Wire", "bits", "()I"⟩, ⟨"EvenWords$Wire", "hasBit", "(I)Z"⟩, ⟨"EvenWords$Wire", "bitAt", "(I)I"⟩, ⟨"EvenWords$Wire", "turn", "(I)V"⟩, ⟨"EvenWords$Wire", "placeOf", "(I)I"⟩, ⟨"EvenWords$Wire", "ones", "()I"⟩, ⟨"EvenWords$Wire", "turned", "()I"⟩, ⟨"EvenWords$Wire", "marksSent", "()I"⟩, ⟨"EvenWords", "<init>", "()V"⟩, ⟨"EvenWords", "type", "(I)I"⟩, ⟨"EvenWords", "clear", "()I"⟩, ⟨"EvenWords", "tells", "()I"⟩, ⟨"EvenWords", "sends", "(I)I"⟩, ⟨"EvenWords", "marks", "(I)I"⟩, ⟨"EvenWords", "flips", "(I)I"⟩, ⟨"EvenWords", "clears", "()I"⟩, ⟨"EvenWords", "undo", "()I"⟩, ⟨"EvenWords", "form", "(II)I"⟩, ⟨"EvenWords", "bit", "(I)I"⟩, ⟨"EvenWords", "word", "(I)I"⟩, ⟨"EvenWords", "recent", "(I)I"⟩, ⟨"EvenWords", "piece", "(IIII)I"⟩, ⟨"EvenWords", "read", "(III)I"⟩, ⟨"EvenWords", "cuts", "(I)I"⟩, ⟨"EvenWords", "level", "(II)I"⟩, ⟨"EvenWords", "evenest", "(II)I"⟩, ⟨"EvenWords", "weight", "(I)I"⟩, ⟨"EvenWords", "keep", "(I)I"⟩, ⟨"EvenWords", "back", "(I)I"⟩, ⟨"EvenWords", "count", "(I)I"⟩, ⟨"EvenWords", "sendOne", "(I)I"⟩, ⟨"EvenWords", "remember", "()V"⟩, ⟨"EvenWords", "forgetOldest", "()V"⟩, ⟨"EvenWords", "longestRun", "()I"⟩, ⟨"EvenWords", "faultPlace", "()I"⟩, ⟨"EvenWords", "tokenEnd", "(I)I"⟩, ⟨"EvenWords", "isFigure", "(I)Z"⟩, ⟨"EvenWords", "afterToken", "(III)I"⟩, ⟨"EvenWords", "afterNumber", "(III)I"⟩, ⟨"EvenWords", "numberAt", "(II)I"⟩, ⟨"EvenWords", "canRead", "(II)Z"⟩, ⟨"EvenWords", "sumOf", "(I)I"⟩, ⟨"EvenWords", "signOf", "(I)I"⟩, ⟨"EvenWordsModel", "<init>", "()V"⟩, ⟨"EvenWordsModel", "bares", "()V"⟩, ⟨"EvenWordsModel", "in", "(III)Z"⟩, ⟨"EvenWordsModel", "ones", "(I)I"⟩, ⟨"EvenWordsModel", "isMark", "(I)Z"⟩, ⟨"EvenWordsModel", "kth", "(II)I"⟩, ⟨"EvenWordsModel", "formOf", "(II)I"⟩, ⟨"EvenWordsModel", "lays", "()V"⟩, ⟨"EvenWordsModel", "letterAt", "(I)I"⟩, ⟨"EvenWordsModel", "type", "(I)I"⟩, ⟨"EvenWordsModel", "clear", "()I"⟩, ⟨"EvenWordsModel", "advances", "()V"⟩, ⟨"EvenWordsModel", "takes", "(Z)I"⟩, ⟨"EvenWordsModel", "readsText", "()V"⟩, ⟨"EvenWordsModel", "tells", "()I"⟩, ⟨"EvenWordsModel", "notes", "()V"⟩, ⟨"EvenWordsModel", "remembers", "(I)V"⟩, ⟨"EvenWordsModel", "sent", "(I)I"⟩, ⟨"EvenWordsModel", "sends", "(I)I"⟩, ⟨"EvenWordsModel", "marks", "(I)I"⟩, ⟨"EvenWordsModel", "isBit", "(I)Z"⟩, ⟨"EvenWordsModel", "flips", "(I)I"⟩, ⟨"EvenWordsModel", "clears", "()I"⟩, ⟨"EvenWordsModel", "undo", "()I"⟩, ⟨"EvenWordsModel", "form", "(II)I"⟩, ⟨"EvenWordsModel", "bit", "(I)I"⟩, ⟨"EvenWordsModel", "word", "(I)I"⟩, ⟨"EvenWordsModel", "recent", "(I)I"⟩, ⟨"EvenWordsModel", "bitAt", "(II)I"⟩, ⟨"EvenWordsModel", "reads", "(III)V"⟩, ⟨"EvenWordsModel", "firstBreach", "()I"⟩, ⟨"EvenWordsModel", "isBegin", "(II)Z"⟩, ⟨"EvenWordsModel", "sumOf", "(I)I"⟩, ⟨"EvenWordsModel", "piece", "(IIII)I"⟩, ⟨"EvenWordsModel", "blames", "(II)V"⟩, ⟨"EvenWordsModel", "read", "(III)I"⟩, ⟨"EvenWordsModel", "cuts", "(I)I"⟩, ⟨"EvenWordsModel", "laysLevels", "()V"⟩, ⟨"EvenWordsModel", "longest", "()I"⟩, ⟨"EvenWordsModel", "level", "(II)I"⟩, ⟨"EvenWordsModel", "lengthens", "(I)V"⟩, ⟨"EvenWordsModel", "isOrder", "(II)Z"⟩, ⟨"EvenWordsModel", "laysAhead", "(I)V"⟩, ⟨"EvenWordsModel", "evenestOf", "(I)I"⟩, ⟨"EvenWordsModel", "evenest", "(II)I"⟩, ⟨"EvenWordsModel", "weight", "(I)I"⟩, ⟨"EvenWordsModel", "keep", "(I)I"⟩, ⟨"EvenWordsModel", "back", "(I)I"⟩, ⟨"EvenWordsModel", "turnedMany", "()I"⟩, ⟨"EvenWordsModel", "oneMany", "()I"⟩, ⟨"EvenWordsModel", "markMany", "()I"⟩, ⟨"EvenWordsModel", "count", "(I)I"⟩, ⟨"java/lang/Integer", "bitCount", "(I)I"⟩, ⟨"java/lang/Math", "max", "(II)I"⟩, ⟨"EvenWordsLaw", "law", "([I)Z"⟩]
def mvB : List ByteArray := [prog_2_method_2_code, prog_2_method_3_code, prog_2_method_4_code, prog_2_method_5_code, prog_2_method_6_code, prog_2_method_7_code, prog_2_method_8_code, prog_3_method_1_code, prog_3_method_2_code, prog_3_method_3_code, prog_3_method_4_code, prog_3_method_5_code, prog_3_method_6_code, prog_4_method_1_code, prog_4_method_2_code, prog_4_method_3_code, prog_4_method_4_code, prog_4_method_5_code, prog_4_method_6_code, prog_4_method_7_code, prog_4_method_8_code, prog_4_method_9_code, prog_4_method_10_code, prog_5_method_1_code, prog_5_method_2_code, prog_5_method_3_code, prog_5_method_4_code, prog_5_method_5_code, prog_5_method_6_code, prog_6_method_1_code, prog_6_method_2_code, prog_6_method_3_code, prog_6_method_4_code, prog_6_method_5_code, prog_6_method_6_code, prog_6_method_7_code, prog_6_method_8_code, prog_6_method_9_code, prog_6_method_10_code, prog_6_method_11_code, prog_6_method_12_code, prog_6_method_13_code, prog_6_method_14_code, prog_1_method_1_code, prog_1_method_2_code, prog_1_method_3_code, prog_1_method_4_code, prog_1_method_5_code, prog_1_method_6_code, prog_1_method_7_code, prog_1_method_8_code, prog_1_method_9_code, prog_1_method_10_code, prog_1_method_11_code, prog_1_method_12_code, prog_1_method_13_code, prog_1_method_14_code, prog_1_method_15_code, prog_1_method_16_code, prog_1_method_17_code, prog_1_method_18_code, prog_1_method_19_code, prog_1_method_20_code, prog_1_method_21_code, prog_1_method_22_code, prog_1_method_23_code, prog_1_method_24_code, prog_1_method_25_code, prog_1_method_26_code, prog_1_method_27_code, prog_1_method_28_code, prog_1_method_29_code, prog_1_method_30_code, prog_1_method_31_code, prog_1_method_32_code, prog_1_method_33_code, prog_1_method_34_code, prog_1_method_35_code, prog_8_method_1_code, prog_8_method_2_code, prog_8_method_4_code, prog_8_method_5_code, prog_8_method_6_code, prog_8_method_7_code, prog_8_method_8_code, prog_8_method_9_code, prog_8_method_10_code, prog_8_method_11_code, prog_8_method_12_code, prog_8_method_13_code, prog_8_method_14_code, prog_8_method_15_code, prog_8_method_16_code, prog_8_method_17_code, prog_8_method_18_code, prog_8_method_19_code, prog_8_method_20_code, prog_8_method_21_code, prog_8_method_22_code, prog_8_method_23_code, prog_8_method_24_code, prog_8_method_25_code, prog_8_method_26_code, prog_8_method_27_code, prog_8_method_28_code, prog_8_method_29_code, prog_8_method_30_code, prog_8_method_31_code, prog_8_method_32_code, prog_8_method_33_code, prog_8_method_34_code, prog_8_method_35_code, prog_8_method_36_code, prog_8_method_37_code, prog_8_method_38_code, prog_8_method_39_code, prog_8_method_40_code, prog_8_method_41_code, prog_8_method_42_code, prog_8_method_43_code, prog_8_method_44_code, prog_8_method_45_code, prog_8_method_46_code, prog_8_method_47_code, prog_8_method_48_code, prog_8_method_49_code, prog_8_method_50_code, prog_8_method_51_code, prog_8_method_52_code, prog_8_method_53_code, prog_9_method_49_code, prog_10_method_65_code, code]
def mvMl : List Nat := [1, 1, 1, 2, 1, 3, 3, 2, 5, 5, 2, 6, 3, 1, 7, 2, 4, 2, 4, 2, 4, 4, 1, 1, 2, 2, 2, 4, 2, 1, 1, 3, 3, 2, 3, 1, 2, 2, 2, 1, 3, 3, 3, 2, 2, 2, 3, 2, 2, 2, 2, 1, 3, 2, 2, 2, 6, 4, 4, 8, 3, 6, 2, 2, 2, 2, 1, 3, 2, 4, 3, 2, 5, 4, 4, 2, 1, 1, 1, 2, 3, 3, 1, 5, 3, 3, 2, 2, 2, 2, 3, 3, 2, 2, 2, 4, 2, 2, 2, 2, 2, 2, 3, 2, 2, 3, 3, 13, 2, 2, 1, 5, 5, 7, 5, 3, 4, 8, 5, 6, 3, 11, 4, 6, 3, 3, 5, 3, 3, 2, 1, 2, 4]
def mvNa : List Nat := [1, 1, 1, 2, 1, 2, 2, 1, 3, 3, 2, 3, 2, 1, 4, 2, 2, 2, 2, 1, 1, 3, 1, 1, 2, 2, 2, 2, 2, 1, 1, 2, 2, 2, 2, 1, 2, 2, 2, 1, 1, 1, 1, 1, 2, 1, 1, 2, 2, 2, 1, 1, 3, 2, 2, 2, 5, 4, 2, 3, 3, 2, 2, 2, 2, 2, 1, 1, 1, 1, 2, 2, 4, 4, 3, 2, 1, 1, 1, 1, 3, 1, 1, 2, 2, 1, 2, 2, 1, 1, 2, 1, 1, 1, 2, 2, 2, 2, 2, 2, 1, 1, 3, 2, 2, 2, 3, 4, 1, 2, 1, 5, 3, 4, 2, 1, 1, 3, 2, 3, 2, 2, 3, 2, 2, 2, 1, 1, 1, 2, 1, 2, 1]
def mvO : List Nat := [6, 6, 6, 6, 6, 6, 6, 0, 0, 0, 0, 0, 0, 1, 1, 1, 1, 1, 1, 1, 1, 1, 1, 2, 2, 2, 2, 2, 2, 3, 3, 3, 3, 3, 3, 3, 3, 3, 3, 3, 3, 3, 3, 4, 4, 4, 4, 4, 4, 4, 4, 4, 4, 4, 4, 4, 4, 4, 4, 4, 4, 4, 4, 4, 4, 4, 4, 4, 4, 4, 4, 4, 4, 4, 4, 4, 4, 4, 5, 5, 5, 5, 5, 5, 5, 5, 5, 5, 5, 5, 5, 5, 5, 5, 5, 5, 5, 5, 5, 5, 5, 5, 5, 5, 5, 5, 5, 5, 5, 5, 5, 5, 5, 5, 5, 5, 5, 5, 5, 5, 5, 5, 5, 5, 5, 5, 5, 5, 5, 5, 7, 8, 9]
def mvSt : List Bool := [true, true, true, true, true, true, true, false, false, false, false, true, false, false, false, false, false, false, false, false, false, false, false, false, false, false, false, false, false, false, false, true, false, false, false, false, false, false, false, true, false, false, false, false, false, false, false, false, false, false, false, false, false, false, false, false, false, false, false, false, false, false, false, false, false, false, false, false, false, false, false, false, false, false, false, true, true, true, false, false, true, true, true, true, true, false, false, false, false, false, false, false, false, false, false, false, false, false, false, false, false, false, false, false, false, false, false, false, false, true, true, false, false, false, false, false, false, false, false, false, false, false, false, false, false, false, false, false, false, false, true, true, true]
def mvRt : List (Option FieldType) := [(some .boolean), (some .int), (some .int), (some .int), (some .int), (some .boolean), (some .int), none, none, none, (some .int), none, none, none, none, (some .int), (some .int), (some .int), (some .int), none, none, (some .boolean), (some .int), none, none, none, none, (some .int), (some .int), none, none, none, (some .int), none, (some .int), (some .int), (some .boolean), (some .int), none, (some .int), (some .int), (some .int), (some .int), none, (some .int), (some .int), (some .int), (some .int), (some .int), (some .int), (some .int), (some .int), (some .int), (some .int), (some .int), (some .int), (some .int), (some .int), (some .int), (some .int), (some .int), (some .int), (some .int), (some .int), (some .int), (some .int), none, none, (some .int), (some .int), (some .int), (some .boolean), (some .int), (some .int), (some .int), (some .boolean), (some .int), (some .int), none, none, (some .boolean), (some .int), (some .boolean), (some .int), (some .int), none, (some .int), (some .int), (some .int), none, (some .int), none, (some .int), none, none, (some .int), (some .int), (some .int), (some .boolean), (some .int), (some .int), (some .int), (some .int), (some .int), (some .int), (some .int), (some .int), none, (some .int), (some .boolean), (some .int), (some .int), none, (some .int), (some .int), none, (some .int), (some .int), none, (some .boolean), none, (some .int), (some .int), (some .int), (some .int), (some .int), (some .int), (some .int), (some .int), (some .int), (some .int), (some .int), (some .boolean)]
/-- fields by link: own class, place in its pool, class, number, place of the word in tables_1 -/
def mvF : List (Nat × Nat × Nat × Nat × Nat) := [(3, 9, 3, 0, 24), (0, 44, 3, 0, 25), (4, 111, 3, 0, 26), (3, 15, 3, 1, 27), (0, 53, 3, 1, 28), (3, 18, 3, 2, 29), (3, 21, 3, 3, 30), (0, 35, 3, 3, 31), (4, 63, 3, 3, 32), (3, 25, 3, 4, 33), (4, 201, 3, 4, 34), (3, 28, 3, 5, 35), (3, 31, 3, 6, 36), (2, 9, 2, 0, 66), (0, 70, 2, 0, 67), (2, 15, 2, 1, 68), (4, 184, 2, 1, 69), (2, 18, 2, 2, 70), (2, 21, 2, 3, 71), (2, 24, 2, 4, 72), (0, 60, 2, 4, 73), (4, 219, 2, 4, 74), (1, 9, 1, 0, 87), (1, 18, 1, 1, 88), (1, 22, 1, 2, 89), (1, 25, 1, 3, 90), (1, 29, 1, 4, 91), (1, 32, 1, 5, 92), (4, 128, 1, 5, 93), (1, 35, 1, 6, 94), (4, 156, 1, 6, 95), (1, 38, 1, 7, 96), (4, 159, 1, 7, 97), (1, 41, 1, 8, 98), (4, 165, 1, 8, 99), (1, 44, 1, 9, 100), (4, 168, 1, 9, 101), (0, 11, 0, 0, 132), (0, 17, 0, 1, 133), (0, 21, 0, 2, 134), (0, 24, 0, 3, 135), (0, 27, 0, 4, 136), (0, 31, 0, 5, 137), (4, 191, 0, 5, 138), (4, 12, 4, 0, 154), (4, 16, 4, 1, 155), (4, 20, 4, 2, 156), (4, 23, 4, 3, 157), (4, 27, 4, 4, 158), (4, 31, 4, 5, 159), (4, 37, 4, 6, 160), (4, 44, 4, 7, 161), (4, 51, 4, 8, 162), (4, 55, 4, 9, 163), (4, 66, 4, 10, 164), (4, 93, 4, 11, 165), (5, 59, 5, 0, 519), (5, 7, 5, 1, 520), (5, 13, 5, 2, 521), (5, 126, 5, 3, 522), (5, 16, 5, 4, 523), (5, 19, 5, 5, 524), (5, 23, 5, 6, 525), (5, 82, 5, 7, 526), (5, 26, 5, 8, 527), (5, 110, 5, 9, 528), (5, 29, 5, 10, 529), (5, 32, 5, 11, 530), (5, 75, 5, 12, 531), (5, 89, 5, 13, 532), (5, 95, 5, 14, 533), (5, 98, 5, 15, 534), (5, 101, 5, 16, 535), (5, 104, 5, 17, 536), (5, 139, 5, 18, 537), (5, 35, 5, 19, 538), (5, 38, 5, 20, 539), (5, 41, 5, 21, 540), (5, 44, 5, 22, 541), (5, 156, 5, 23, 542), (5, 159, 5, 24, 543), (5, 47, 5, 25, 544), (5, 175, 5, 26, 545), (5, 178, 5, 27, 546), (5, 181, 5, 28, 547), (5, 184, 5, 29, 548), (5, 50, 5, 30, 549), (5, 53, 5, 31, 550)]
/-- methods by link: own class, place in its pool, method, of a nest mate, place of the word -/
def mvC : List (Nat × Nat × Nat × Bool × Nat) := [(9, 9, 43, false, 12), (4, 11, 29, true, 20), (4, 36, 13, true, 56), (1, 17, 23, true, 62), (4, 43, 7, false, 125), (0, 34, 23, true, 131), (4, 50, 23, true, 153), (9, 13, 44, false, 191), (9, 18, 45, false, 195), (9, 23, 46, false, 199), (4, 59, 69, false, 203), (4, 222, 70, false, 207), (4, 229, 71, false, 211), (4, 225, 72, false, 215), (4, 232, 74, false, 219), (4, 236, 73, false, 223), (4, 69, 66, false, 227), (4, 216, 67, false, 231), (4, 96, 31, false, 235), (4, 72, 32, false, 238), (3, 34, 3, false, 242), (6, 19, 2, false, 245), (6, 15, 1, false, 248), (3, 40, 6, false, 253), (6, 32, 130, false, 256), (3, 43, 33, false, 262), (9, 27, 47, false, 266), (4, 76, 65, false, 270), (9, 31, 48, false, 274), (9, 35, 49, false, 278), (4, 79, 36, false, 282), (3, 47, 35, false, 286), (4, 83, 38, false, 290), (3, 51, 36, false, 294), (3, 55, 39, false, 295), (4, 87, 37, false, 298), (9, 39, 50, false, 302), (4, 90, 30, false, 306), (9, 43, 51, false, 310), (9, 47, 52, false, 314), (4, 100, 0, false, 318), (4, 105, 1, false, 321), (4, 108, 2, false, 322), (9, 52, 53, false, 323), (9, 56, 54, false, 327), (9, 60, 55, false, 331), (4, 114, 34, false, 335), (9, 64, 56, false, 339), (4, 117, 75, false, 343), (4, 121, 76, false, 346), (4, 124, 14, false, 349), (1, 47, 35, false, 353), (1, 53, 37, false, 354), (4, 131, 15, false, 355), (4, 134, 4, false, 359), (4, 137, 16, false, 364), (1, 57, 15, false, 368), (1, 60, 6, false, 369), (4, 140, 5, false, 370), (6, 25, 4, false, 373), (6, 28, 3, false, 374), (4, 143, 18, false, 375), (1, 69, 24, false, 379), (1, 73, 27, false, 383), (2, 33, 28, false, 387), (2, 46, 4, false, 391), (2, 49, 5, false, 392), (2, 37, 26, false, 393), (2, 27, 131, false, 397), (2, 41, 6, false, 400), (4, 146, 17, false, 401), (1, 66, 16, false, 405), (4, 149, 77, false, 406), (9, 69, 57, false, 409), (4, 153, 19, false, 414), (4, 162, 20, false, 418), (1, 76, 21, false, 422), (1, 80, 25, false, 426), (4, 171, 22, false, 430), (9, 74, 58, false, 435), (9, 78, 59, false, 439), (4, 175, 24, false, 444), (4, 178, 35, false, 445), (4, 181, 26, false, 446), (9, 82, 60, false, 447), (4, 187, 8, false, 451), (0, 40, 9, false, 455), (0, 49, 24, false, 459), (0, 56, 27, false, 460), (0, 45, 11, false, 461), (0, 63, 12, false, 464), (0, 66, 25, false, 468), (0, 73, 3, false, 469), (4, 194, 10, false, 470), (9, 86, 61, false, 474), (9, 90, 62, false, 480), (9, 94, 63, false, 484), (9, 98, 64, false, 488), (4, 204, 40, false, 492), (3, 59, 130, false, 496), (4, 207, 41, false, 497), (4, 210, 68, false, 501), (4, 213, 42, false, 505), (9, 12, 78, false, 511), (5, 56, 79, false, 515), (9, 17, 87, false, 616), (5, 85, 80, false, 620), (9, 22, 88, false, 623), (9, 26, 92, false, 627), (5, 117, 91, false, 631), (5, 107, 89, false, 635), (5, 92, 86, false, 639), (5, 113, 90, false, 643), (5, 120, 93, false, 647), (5, 123, 95, false, 651), (5, 79, 84, false, 655), (5, 71, 83, false, 658), (5, 63, 81, false, 661), (5, 67, 82, false, 664), (5, 129, 94, false, 667), (9, 30, 96, false, 671), (9, 34, 97, false, 675), (9, 38, 99, false, 679), (5, 133, 98, false, 683), (9, 42, 100, false, 687), (9, 46, 101, false, 691), (9, 51, 102, false, 695), (9, 55, 103, false, 699), (9, 59, 104, false, 703), (9, 63, 105, false, 707), (9, 68, 111, false, 711), (5, 145, 109, false, 715), (5, 149, 110, false, 718), (5, 152, 107, false, 721), (5, 136, 85, false, 725), (5, 142, 106, false, 729), (9, 73, 113, false, 733), (5, 162, 108, false, 738), (5, 167, 112, false, 742), (9, 77, 114, false, 747), (9, 81, 117, false, 751), (5, 172, 115, false, 755), (9, 85, 122, false, 759), (5, 196, 121, false, 763), (5, 190, 120, false, 767), (5, 187, 118, false, 771), (5, 193, 119, false, 775), (9, 89, 123, false, 779), (9, 93, 124, false, 785), (9, 97, 125, false, 789), (9, 101, 129, false, 793), (5, 203, 127, false, 797), (5, 206, 126, false, 801), (5, 209, 116, false, 805), (5, 212, 128, false, 809)]
/-- links of Object's constructor -/
def mvOb : List (Nat × Nat × Nat) := [(4, 3, 15), (3, 3, 23), (1, 3, 59), (2, 3, 65), (0, 3, 128), (5, 1, 514)]
/-- classes by link -/
def mvN : List (Nat × Nat × Nat × Nat) := [(9, 7, 4, 10), (4, 9, 3, 18), (4, 34, 1, 54), (1, 15, 2, 60), (4, 41, 0, 123), (0, 9, 2, 129), (4, 48, 2, 152), (9, 10, 5, 509)]
/-- constants -/
def mvK : List (Nat × Nat × Int32 × Nat) := [(7, 265, (1431655765), 259), (7, 266, (858993459), 260), (7, 267, (252645135), 261), (4, 152, (-1000000), 413), (1, 84, (-2000000), 434), (4, 174, (-2000000), 443), (5, 166, (-1000000), 737), (5, 171, (-2000000), 746)]
def mvKl : List (Nat × Nat × Int64 × Nat) := [(4, 197, (-999999), 478), (4, 199, (999999), 479), (5, 199, (-999999), 783), (5, 201, (999999), 784)]
/-- static arrays by link -/
def mvS : List (Nat × Nat × Nat × Nat) := [(6, 9, 0, 251), (6, 22, 1, 362)]
/-- a field: 0 int, 1 boolean, 2 a reference; final -/
def mvFt : List (List (Nat × Bool)) := [[(2, true), (2, true), (2, true), (2, true), (0, false), (0, false)], [(2, true), (2, true), (2, true), (0, false), (0, false), (0, false), (0, false), (0, false), (0, false), (0, false)], [(0, false), (0, false), (0, false), (0, false), (0, false)], [(2, true), (2, true), (2, true), (0, false), (0, false), (0, false), (0, false)], [(2, true), (2, true), (2, true), (2, true), (2, true), (2, true), (2, true), (2, true), (2, true), (0, false), (0, false), (0, false)], [(0, false), (2, true), (2, true), (0, false), (2, true), (2, true), (2, true), (0, false), (2, true), (0, false), (2, true), (2, true), (1, false), (0, false), (0, false), (0, false), (0, false), (0, false), (0, false), (2, true), (2, true), (2, true), (2, true), (0, false), (0, false), (2, true), (0, false), (0, false), (0, false), (0, false), (2, true), (2, true)]]
end
section
/-! A SMALL PURE MACHINE: what the bytecode does to a pure memory. Addresses are places of a list of cells: 0, 1 the two static arrays, 2 the script, 3 and on what was made since the law's start. -/
/-- how many cells there are, how many slots were made, and each cell's kind (0 to 5 an object of that class, 6 int[], 7 boolean[], 8 Walk[], 9 Wire[], 10 an int[] that is only read, 99 none) and length -/
abbrev mL : Type := Nat × Nat × (Nat → Nat × Nat)
/-- the memory: the cells' kinds, the objects' fields, the int and boolean arrays, the arrays of references -/
abbrev mM : Type := mL × (Nat → Nat → Value) × (Nat → Nat → Int32) × (Nat → Nat → Option Nat)
def kd (t : mL) (a : Nat) : Nat := (t.2.2 a).1
def ln (t : mL) (a : Nat) : Nat := (t.2.2 a).2
def up1 {α : Type} (f : Nat → α) (a : Nat) (r : α) : Nat → α := fun b => if b = a then r else f b
/-- a row of fields -/
def rw' (l : List Value) : Nat → Value := fun k => l.getD k .null
def mvFl (o i : Nat) : Option (Nat × Nat) := (mvF.find? (fun q => q.1 == o && q.2.1 == i)).map (fun q => (q.2.2.1, q.2.2.2.1))
def mvCl (o i : Nat) : Option Nat := (mvC.find? (fun q => q.1 == o && q.2.1 == i)).map (fun q => q.2.2.1)
def mvObl (o i : Nat) : Bool := mvOb.any (fun q => q.1 == o && q.2.1 == i)
def mvNl (o i : Nat) : Option Nat := (mvN.find? (fun q => q.1 == o && q.2.1 == i)).map (fun q => q.2.2.1)
def mvKi (o i : Nat) : Option Int32 := (mvK.find? (fun q => q.1 == o && q.2.1 == i)).map (fun q => q.2.2.1)
def mvKli (o i : Nat) : Option Int64 := (mvKl.find? (fun q => q.1 == o && q.2.1 == i)).map (fun q => q.2.2.1)
def mvSl (o i : Nat) : Option Nat := (mvS.find? (fun q => q.1 == o && q.2.1 == i)).map (fun q => q.2.2.1)
def bOf (M : Nat) : ByteArray := mvB.getD M ⟨#[]⟩
def oOf (M : Nat) : Nat := mvO.getD M 99
def mlOf (M : Nat) : Nat := mvMl.getD M 0
def naOf (M : Nat) : Nat := mvNa.getD M 0
def stOf (M : Nat) : Bool := mvSt.getD M false
def rtOf (M : Nat) : Option FieldType := mvRt.getD M none
def ftOf (ci k : Nat) : Nat × Bool := (mvFt.getD ci []).getD k (9, false)
def nfOf (ci : Nat) : Nat := (mvFt.getD ci []).length
/-- what a new object's field holds -/
def dfOf (ci : Nat) : List Value := (mvFt.getD ci []).map (fun q => if q.1 = 2 then Value.null else Value.int 0)
def isInit (M : Nat) : Bool := M == 7 || M == 13 || M == 23 || M == 29 || M == 43 || M == 78
/-- may this value go into this field -/
def mayPut (M ci k : Nat) (v : Value) : Bool :=
  (match (ftOf ci k).1, v with
    | 0, .int _ => true
    | 1, .int x => x == 0 || x == 1
    | 2, .ref _ => true
    | _, _ => false) && (!(ftOf ci k).2 || (isInit M && oOf M == ci))
/-- no long lies across this place -/
def stOK (L : List Value) (i : Nat) : Bool := decide (i < L.length) && (match i with
  | 0 => true
  | j + 1 => decide ((L.getD j .null).category = 1))
/-- an index in its row -/
def inB (i : Int32) (n : Nat) : Bool := decide (0 ≤ i.toInt ∧ i.toInt < n)
/-- the receiver is an object of that class -/
def rcv (a : List Value) (t : mL) (c : Nat) : Bool := match a with
  | .ref b :: _ => decide (kd t b = c)
  | _ => false
def rcI (a : List Value) : Bool := match a with
  | .ref _ :: _ => true
  | _ => false
def tgt (pc : Nat) (off : Int) : Nat := ((pc : Int) + off).toNat
def mCmp (c : Jvm.ClassFile.Cond) (x y : Int32) : Bool := match c with
  | .eq => decide (x = y)
  | .ne => decide (¬ x = y)
  | .lt => decide (x < y)
  | .ge => decide (y ≤ x)
  | .gt => decide (y < x)
  | .le => decide (x ≤ y)
def stdLen (i : Instr) : Nat := match i with
  | .bipush _ | .ldc _ | .iload _ | .aload _ | .lload _ | .istore _ | .astore _ | .lstore _ | .newarray _ => 2
  | .sipush _ | .ldc_w _ | .ldc2_w _ | .iinc _ _ | .if_icmp _ _ | .ifCond _ _ | .ifnull _ | .ifnonnull _ | .goto _ | .getfield _ | .putfield _ | .getstatic _ | .invokevirtual _ | .invokespecial _ | .invokestatic _ | .new _ | .anewarray _ => 3
  | _ => 1
def lenOK (i : Instr) (len : Nat) : Prop := match i with
  | .tableswitch _ _ _ _ => True
  | _ => len = stdLen i
/-- an instruction that neither calls nor returns -/
def mNext (M : Nat) (i : Instr) (pc : Nat) (L st : List Value) (μ : mM) : Option (Nat × List Value × List Value × mM) :=
  match i with
  | .iconst c => some (pc + 1, L, .int (Int32.ofInt c) :: st, μ)
  | .bipush c => some (pc + 2, L, .int (Int8.ofInt c).toInt32 :: st, μ)
  | .sipush c => some (pc + 3, L, .int (Int16.ofInt c).toInt32 :: st, μ)
  | .lconst n => some (pc + 1, L, .long (Int64.ofNat (n : Nat)) :: st, μ)
  | .ldc j => (match mvKi (oOf M) j with
    | some v => some (pc + 2, L, .int v :: st, μ)
    | none => none)
  | .ldc_w j => (match mvKi (oOf M) j with
    | some v => some (pc + 3, L, .int v :: st, μ)
    | none => none)
  | .ldc2_w j => (match mvKli (oOf M) j with
    | some v => some (pc + 3, L, .long v :: st, μ)
    | none => none)
  | .iload_n k => (match L[(k : Nat)]? with
    | some (.int x) => some (pc + 1, L, .int x :: st, μ)
    | _ => none)
  | .iload k => (match L[k]? with
    | some (.int x) => some (pc + 2, L, .int x :: st, μ)
    | _ => none)
  | .aload_n k => (match L[(k : Nat)]? with
    | some (.ref x) => some (pc + 1, L, .ref x :: st, μ)
    | _ => none)
  | .aload k => (match L[k]? with
    | some (.ref x) => some (pc + 2, L, .ref x :: st, μ)
    | _ => none)
  | .lload_n k => (match L[(k : Nat)]? with
    | some (.long x) => some (pc + 1, L, .long x :: st, μ)
    | _ => none)
  | .lload k => (match L[k]? with
    | some (.long x) => some (pc + 2, L, .long x :: st, μ)
    | _ => none)
  | .istore_n k => (match st with
    | .int x :: r => if stOK L k = true then some (pc + 1, L.set k (.int x), r, μ) else none
    | _ => none)
  | .istore k => (match st with
    | .int x :: r => if stOK L k = true then some (pc + 2, L.set k (.int x), r, μ) else none
    | _ => none)
  | .astore_n k => (match st with
    | .ref x :: r => if stOK L k = true then some (pc + 1, L.set k (.ref x), r, μ) else none
    | _ => none)
  | .astore k => (match st with
    | .ref x :: r => if stOK L k = true then some (pc + 2, L.set k (.ref x), r, μ) else none
    | _ => none)
  | .lstore_n k => (match st with
    | .long x :: r => if stOK L k = true ∧ (k : Nat) + 1 < L.length ∧ (L.getD (k + 1) .null).category = 1 then some (pc + 1, (L.set k (.long x)).set (k + 1) .null, r, μ) else none
    | _ => none)
  | .lstore k => (match st with
    | .long x :: r => if stOK L k = true ∧ (k : Nat) + 1 < L.length ∧ (L.getD (k + 1) .null).category = 1 then some (pc + 2, (L.set k (.long x)).set (k + 1) .null, r, μ) else none
    | _ => none)
  | .iinc k c => (match L[k]? with
    | some (.int x) => if stOK L k = true then some (pc + 3, L.set k (.int (x + Int32.ofInt c)), st, μ) else none
    | _ => none)
  | .iadd => (match st with
    | .int y :: .int x :: r => some (pc + 1, L, .int (x + y) :: r, μ)
    | _ => none)
  | .isub => (match st with
    | .int y :: .int x :: r => some (pc + 1, L, .int (x - y) :: r, μ)
    | _ => none)
  | .imul => (match st with
    | .int y :: .int x :: r => some (pc + 1, L, .int (x * y) :: r, μ)
    | _ => none)
  | .idiv => (match st with
    | .int y :: .int x :: r => if y = 0 then none else some (pc + 1, L, .int (x / y) :: r, μ)
    | _ => none)
  | .irem => (match st with
    | .int y :: .int x :: r => if y = 0 then none else some (pc + 1, L, .int (x - x / y * y) :: r, μ)
    | _ => none)
  | .ineg => (match st with
    | .int x :: r => some (pc + 1, L, .int (-x) :: r, μ)
    | _ => none)
  | .iand => (match st with
    | .int y :: .int x :: r => some (pc + 1, L, .int (x &&& y) :: r, μ)
    | _ => none)
  | .ior => (match st with
    | .int y :: .int x :: r => some (pc + 1, L, .int (x ||| y) :: r, μ)
    | _ => none)
  | .ixor => (match st with
    | .int y :: .int x :: r => some (pc + 1, L, .int (x ^^^ y) :: r, μ)
    | _ => none)
  | .ishl => (match st with
    | .int y :: .int x :: r => some (pc + 1, L, .int (x <<< (y &&& 31)) :: r, μ)
    | _ => none)
  | .ishr => (match st with
    | .int y :: .int x :: r => some (pc + 1, L, .int (x >>> (y &&& 31)) :: r, μ)
    | _ => none)
  | .iushr => (match st with
    | .int y :: .int x :: r => some (pc + 1, L, .int (x.toUInt32 >>> (y.toUInt32 &&& Int32.toUInt32 31)).toInt32 :: r, μ)
    | _ => none)
  | .i2l => (match st with
    | .int x :: r => some (pc + 1, L, .long x.toInt64 :: r, μ)
    | _ => none)
  | .l2i => (match st with
    | .long x :: r => some (pc + 1, L, .int x.toInt32 :: r, μ)
    | _ => none)
  | .ladd => (match st with
    | .long y :: .long x :: r => some (pc + 1, L, .long (x + y) :: r, μ)
    | _ => none)
  | .lmul => (match st with
    | .long y :: .long x :: r => some (pc + 1, L, .long (x * y) :: r, μ)
    | _ => none)
  | .lcmp => (match st with
    | .long y :: .long x :: r => some (pc + 1, L, .int (lg_cmp x y) :: r, μ)
    | _ => none)
  | .dup => (match st with
    | v :: r => if v.category = 1 then some (pc + 1, L, v :: v :: r, μ) else none
    | _ => none)
  | .dup2 => (match st with
    | v :: w :: r => if v.category = 1 ∧ w.category = 1 then some (pc + 1, L, v :: w :: v :: w :: r, μ) else none
    | _ => none)
  | .pop => (match st with
    | v :: r => if v.category = 1 then some (pc + 1, L, r, μ) else none
    | _ => none)
  | .if_icmp c off => (match st with
    | .int y :: .int x :: r => if 0 ≤ (pc : Int) + off then some (if mCmp c x y = true then tgt pc off else pc + 3, L, r, μ) else none
    | _ => none)
  | .ifCond c off => (match st with
    | .int x :: r => if 0 ≤ (pc : Int) + off then some (if mCmp c x 0 = true then tgt pc off else pc + 3, L, r, μ) else none
    | _ => none)
  | .goto off => if 0 ≤ (pc : Int) + off then some (tgt pc off, L, st, μ) else none
  | .ifnull off => (match st with
    | .ref _ :: r => some (pc + 3, L, r, μ)
    | _ => none)
  | .ifnonnull off => (match st with
    | .ref _ :: r => if 0 ≤ (pc : Int) + off then some (tgt pc off, L, r, μ) else none
    | _ => none)
  | .tableswitch d lo hi offs => (match st with
    | .int x :: r => if x.toInt < lo ∨ hi < x.toInt then (if 0 ≤ (pc : Int) + d then some (tgt pc d, L, r, μ) else none)
      else (match offs[(x.toInt - lo).toNat]? with
        | some off => if 0 ≤ (pc : Int) + off then some (tgt pc off, L, r, μ) else none
        | none => none)
    | _ => none)
  | .getfield j => (match mvFl (oOf M) j, st with
    | some (ci, k), .ref a :: r => if kd μ.1 a = ci ∧ k < nfOf ci then some (pc + 3, L, μ.2.1 a k :: r, μ) else none
    | _, _ => none)
  | .putfield j => (match mvFl (oOf M) j, st with
    | some (ci, k), v :: .ref a :: r => if kd μ.1 a = ci ∧ k < nfOf ci ∧ mayPut M ci k v = true then some (pc + 3, L, r, (μ.1, up1 μ.2.1 a (up1 (μ.2.1 a) k v), μ.2.2.1, μ.2.2.2)) else none
    | _, _ => none)
  | .getstatic j => (match mvSl (oOf M) j with
    | some a => some (pc + 3, L, .ref a :: st, μ)
    | none => none)
  | .iaload => (match st with
    | .int i :: .ref a :: r => if (kd μ.1 a = 6 ∨ kd μ.1 a = 10) ∧ inB i (ln μ.1 a) = true then some (pc + 1, L, .int (μ.2.2.1 a i.toNatClampNeg) :: r, μ) else none
    | _ => none)
  | .baload => (match st with
    | .int i :: .ref a :: r => if kd μ.1 a = 7 ∧ inB i (ln μ.1 a) = true then some (pc + 1, L, .int (μ.2.2.1 a i.toNatClampNeg) :: r, μ) else none
    | _ => none)
  | .iastore => (match st with
    | .int x :: .int i :: .ref a :: r => if kd μ.1 a = 6 ∧ inB i (ln μ.1 a) = true then some (pc + 1, L, r, (μ.1, μ.2.1, up1 μ.2.2.1 a (upd (μ.2.2.1 a) i.toNatClampNeg x), μ.2.2.2)) else none
    | _ => none)
  | .bastore => (match st with
    | .int x :: .int i :: .ref a :: r => if kd μ.1 a = 7 ∧ inB i (ln μ.1 a) = true ∧ (x = 0 ∨ x = 1) then some (pc + 1, L, r, (μ.1, μ.2.1, up1 μ.2.2.1 a (upd (μ.2.2.1 a) i.toNatClampNeg x), μ.2.2.2)) else none
    | _ => none)
  | .aaload => (match st with
    | .int i :: .ref a :: r => if (kd μ.1 a = 8 ∨ kd μ.1 a = 9) ∧ inB i (ln μ.1 a) = true then some (pc + 1, L, va_rf (μ.2.2.2 a i.toNatClampNeg) :: r, μ) else none
    | _ => none)
  | .aastore => (match st with
    | .ref v :: .int i :: .ref a :: r => if ((kd μ.1 a = 8 ∧ kd μ.1 v = 2) ∨ (kd μ.1 a = 9 ∧ kd μ.1 v = 3)) ∧ inB i (ln μ.1 a) = true then some (pc + 1, L, r, (μ.1, μ.2.1, μ.2.2.1, up1 μ.2.2.2 a (up1 (μ.2.2.2 a) i.toNatClampNeg (some v)))) else none
    | _ => none)
  | .arraylength => (match st with
    | .ref a :: r => if 6 ≤ kd μ.1 a ∧ kd μ.1 a ≤ 10 then some (pc + 1, L, .int (Int32.ofNat (ln μ.1 a)) :: r, μ) else none
    | _ => none)
  | .newarray t => (match t, st with
    | .int, .int n :: r => if n < 0 ∨ 100000 ≤ n.toNatClampNeg then none else some (pc + 2, L, .ref μ.1.1 :: r, ((μ.1.1 + 1, μ.1.2.1 + n.toNatClampNeg, up1 μ.1.2.2 μ.1.1 (6, n.toNatClampNeg)), μ.2.1, up1 μ.2.2.1 μ.1.1 (fun _ => 0), μ.2.2.2))
    | .boolean, .int n :: r => if n < 0 ∨ 100000 ≤ n.toNatClampNeg then none else some (pc + 2, L, .ref μ.1.1 :: r, ((μ.1.1 + 1, μ.1.2.1 + n.toNatClampNeg, up1 μ.1.2.2 μ.1.1 (7, n.toNatClampNeg)), μ.2.1, up1 μ.2.2.1 μ.1.1 (fun _ => 0), μ.2.2.2))
    | _, _ => none)
  | .anewarray j => (match mvNl (oOf M) j, st with
    | some ci, .int n :: r => if n < 0 ∨ 100000 ≤ n.toNatClampNeg ∨ ¬ (ci = 2 ∨ ci = 3) then none else some (pc + 3, L, .ref μ.1.1 :: r, ((μ.1.1 + 1, μ.1.2.1 + n.toNatClampNeg, up1 μ.1.2.2 μ.1.1 (ci + 6, n.toNatClampNeg)), μ.2.1, μ.2.2.1, up1 μ.2.2.2 μ.1.1 (fun _ => none)))
    | _, _ => none)
  | .new j => (match mvNl (oOf M) j with
    | some ci => if ci < 6 then some (pc + 3, L, .ref μ.1.1 :: st, ((μ.1.1 + 1, μ.1.2.1 + nfOf ci, up1 μ.1.2.2 μ.1.1 (ci, nfOf ci)), up1 μ.2.1 μ.1.1 (rw' (dfOf ci)), μ.2.2.1, μ.2.2.2)) else none
    | none => none)
  | .invokespecial j => if mvObl (oOf M) j = true then (match st with
    | .ref a :: r => some (pc + 3, L, r, μ)
    | _ => none) else none
  | _ => none
/-- a call: the method, its arguments, what stays on the stack -/
def mCall (M : Nat) (i : Instr) (st : List Value) (t : mL) : Option (Nat × List Value × List Value) :=
  match i with
  | .invokestatic j => (match mvCl (oOf M) j with
    | some k => if naOf k ≤ st.length ∧ stOf k = true then some (k, (st.take (naOf k)).reverse, st.drop (naOf k)) else none
    | none => none)
  | .invokevirtual j => (match mvCl (oOf M) j with
    | some k => if naOf k ≤ st.length ∧ stOf k = false ∧ isInit k = false ∧ rcv (st.take (naOf k)).reverse t (oOf k) = true then some (k, (st.take (naOf k)).reverse, st.drop (naOf k)) else none
    | none => none)
  | .invokespecial j => (match mvCl (oOf M) j with
    | some k => if naOf k ≤ st.length ∧ stOf k = false ∧ isInit k = true ∧ rcI (st.take (naOf k)).reverse = true then some (k, (st.take (naOf k)).reverse, st.drop (naOf k)) else none
    | none => none)
  | _ => none
/-- a return -/
def mRet (M : Nat) (i : Instr) (st : List Value) : Option (Option Value) :=
  match i, st with
  | .ireturn, [.int x] => (match rtOf M with
    | some .int => some (some (.int x))
    | some .boolean => if x = 0 ∨ x = 1 then some (some (.int x)) else none
    | _ => none)
  | .return_, [] => (match rtOf M with
    | none => some none
    | _ => none)
  | _, _ => none
/-- from here, in so many steps, with calls as R tells them, the method ends with this answer and memory -/
def xR (R : Nat → List Value → mM → Option Value → mM → Prop) (M : Nat) : Nat → Nat → List Value → List Value → mM → Option Value → mM → Prop
  | 0, _, _, _, _, _, _ => False
  | n + 1, pc, L, st, μ, v, μ' => ∃ (i : Instr) (len : Nat), decode (bOf M) pc = .ok (i, len) ∧ lenOK i len ∧
    (mRet M i st = some v ∧ μ' = μ ∨
     (∃ (pc1 : Nat) (L1 st1 : List Value) (μ1 : mM), mNext M i pc L st μ = some (pc1, L1, st1, μ1) ∧ xR R M n pc1 L1 st1 μ1 v μ') ∨
     (∃ (k : Nat) (a r : List Value) (v1 : Option Value) (μ1 : mM), mCall M i st μ.1 = some (k, a, r) ∧ (r.map fun v => v.category).sum ≤ 8 ∧ R k a μ v1 μ1 ∧ xR R M n (pc + 3) L (v1.toList ++ r) μ1 v μ'))
def enL (k : Nat) (a : List Value) : List Value := a ++ List.replicate (mlOf k - a.length) .null
/-- a method's run, calls no deeper than d -/
def run : Nat → Nat → List Value → mM → Option Value → mM → Prop
  | 0, _, _, _, _, _ => False
  | d + 1, k, a, μ, v, μ' => a.length = naOf k ∧ ∃ n, xR (run d) k n 0 (enL k a) [] μ v μ'
/-- from here the method ends so that Q holds of its answer and memory -/
def Ev (d M pc : Nat) (L st : List Value) (μ : mM) (Q : Option Value → mM → Prop) : Prop := ∃ n v μ', xR (run d) M n pc L st μ v μ' ∧ Q v μ'
def Call (d k : Nat) (a : List Value) (μ : mM) (Q : Option Value → mM → Prop) : Prop := ∃ v μ', run d k a μ v μ' ∧ Q v μ'
end
section
/-! THE SMALL MACHINE'S RULES, as equations -/
def iI (z : Int) : Int32 := Int32.ofInt z
theorem iI0 : iI 0 = 0 := by decide +kernel
def isB (x : Int32) : Prop := x = 0 ∨ x = 1
section EV
variable {d M pc len : Nat} {L st : List Value} {μ : mM} {Q : Option Value → mM → Prop} {t : mL} {V : Nat → Nat → Value} {A : Nat → Nat → Int32} {P : Nat → Nat → Option Nat}
theorem ev_next {i : Instr} {pc1 : Nat} {L1 st1 : List Value} {μ1 : mM} (hd : decode (bOf M) pc = .ok (i, len)) (hl : lenOK i len) (hr : mRet M i st = none) (hc : mCall M i st μ.1 = none) (hn : mNext M i pc L st μ = some (pc1, L1, st1, μ1)) : Ev d M pc L st μ Q = Ev d M pc1 L1 st1 μ1 Q := by
  apply propext
  constructor
  · rintro ⟨n, v, μ', h, hq⟩
    cases n with
    | zero => exact absurd h (by simp [xR])
    | succ n =>
      obtain ⟨i', len', hd', -, h⟩ := h
      rw [hd] at hd'
      cases hd'
      rcases h with ⟨h, -⟩ | ⟨a, b, c, e, h, h2⟩ | ⟨k, a, r, v1, μ1, h, -⟩
      · rw [hr] at h; cases h
      · rw [hn] at h
        cases h
        exact ⟨n, v, μ', h2, hq⟩
      · rw [hc] at h; cases h
  · rintro ⟨n, v, μ', h, hq⟩
    exact ⟨n + 1, v, μ', ⟨i, len, hd, hl, Or.inr (Or.inl ⟨_, _, _, _, hn, h⟩)⟩, hq⟩
theorem ev_ret {i : Instr} {v0 : Option Value} (hd : decode (bOf M) pc = .ok (i, len)) (hl : lenOK i len) (hr : mRet M i st = some v0) (hc : mCall M i st μ.1 = none) (hn : mNext M i pc L st μ = none) : Ev d M pc L st μ Q = Q v0 μ := by
  apply propext
  constructor
  · rintro ⟨n, v, μ', h, hq⟩
    cases n with
    | zero => exact absurd h (by simp [xR])
    | succ n =>
      obtain ⟨i', len', hd', -, h⟩ := h
      rw [hd] at hd'
      cases hd'
      rcases h with ⟨h, h2⟩ | ⟨a, b, c, e, h, h2⟩ | ⟨k, a, r, v1, μ1, h, -⟩
      · rw [hr] at h; cases h; rw [← h2]; exact hq
      · rw [hn] at h; cases h
      · rw [hc] at h; cases h
  · intro h
    exact ⟨1, v0, μ, ⟨i, len, hd, hl, Or.inl ⟨hr, rfl⟩⟩, h⟩
theorem ev_call {i : Instr} {k : Nat} {a r : List Value} (hd : decode (bOf M) pc = .ok (i, len)) (hl : lenOK i len) (hr : mRet M i st = none) (hc : mCall M i st μ.1 = some (k, a, r)) (hs : (r.map fun v => v.category).sum ≤ 8) (hn : mNext M i pc L st μ = none) : Ev d M pc L st μ Q = Call d k a μ (fun v μ1 => Ev d M (pc + 3) L (v.toList ++ r) μ1 Q) := by
  apply propext
  constructor
  · rintro ⟨n, v, μ', h, hq⟩
    cases n with
    | zero => exact absurd h (by simp [xR])
    | succ n =>
      obtain ⟨i', len', hd', -, h⟩ := h
      rw [hd] at hd'
      cases hd'
      rcases h with ⟨h, h2⟩ | ⟨a, b, c, e, h, h2⟩ | ⟨k, a, r, v1, μ1, h, -, h2, h3⟩
      · rw [hr] at h; cases h
      · rw [hn] at h; cases h
      · rw [hc] at h; cases h; exact ⟨v1, μ1, h2, n, v, μ', h3, hq⟩
  · rintro ⟨v1, μ1, h1, n, v, μ', h, hq⟩
    exact ⟨n + 1, v, μ', ⟨i, len, hd, hl, Or.inr (Or.inr ⟨k, a, r, v1, μ1, hc, hs, h1, h⟩)⟩, hq⟩
theorem call_ev {k : Nat} {a : List Value} (h : a.length = naOf k) : Call (d + 1) k a μ Q = Ev d k 0 (enL k a) [] μ Q := by
  apply propext
  constructor
  · rintro ⟨v, μ', ⟨-, n, h1⟩, hq⟩
    exact ⟨n, v, μ', h1, hq⟩
  · rintro ⟨n, v, μ', h1, hq⟩
    exact ⟨v, μ', ⟨h, n, h1⟩, hq⟩
theorem ev_mono {Q' : Option Value → mM → Prop} (h : Ev d M pc L st μ Q) (hQ : ∀ v μ', Q v μ' → Q' v μ') : Ev d M pc L st μ Q' := by
  obtain ⟨n, v, μ', h1, h2⟩ := h
  exact ⟨n, v, μ', h1, hQ _ _ h2⟩
theorem call_mono {k : Nat} {a : List Value} {Q' : Option Value → mM → Prop} (h : Call d k a μ Q) (hQ : ∀ v μ', Q v μ' → Q' v μ') : Call d k a μ Q' := by
  obtain ⟨v, μ', h1, h2⟩ := h
  exact ⟨v, μ', h1, hQ _ _ h2⟩
theorem cat_le (l : List Value) : (l.map fun v => v.category).sum ≤ 2 * l.length := by
  induction l with
  | nil => exact Nat.le_refl _
  | cons a l ih =>
    have h : a.category ≤ 2 := by cases a <;> simp [Value.category]
    simp only [List.map_cons, List.sum_cons, List.length_cons]
    omega
theorem cat_4 {l : List Value} (h : l.length ≤ 4) : (l.map fun v => v.category).sum ≤ 8 := Nat.le_trans (cat_le l) (by omega)
-- constants, locals
theorem e_iconst {c : Int} (hd : decode (bOf M) pc = .ok (.iconst c, 1)) : Ev d M pc L st μ Q = Ev d M (pc + 1) L (.int (Int32.ofInt c) :: st) μ Q := ev_next hd rfl rfl rfl rfl
theorem e_bipush {c : Int} {x : Int32} (hd : decode (bOf M) pc = .ok (.bipush c, 2)) (hx : (Int8.ofInt c).toInt32 = x) : Ev d M pc L st μ Q = Ev d M (pc + 2) L (.int x :: st) μ Q := ev_next hd rfl rfl rfl (by rw [← hx]; rfl)
theorem e_sipush {c : Int} {x : Int32} (hd : decode (bOf M) pc = .ok (.sipush c, 3)) (hx : (Int16.ofInt c).toInt32 = x) : Ev d M pc L st μ Q = Ev d M (pc + 3) L (.int x :: st) μ Q := ev_next hd rfl rfl rfl (by rw [← hx]; rfl)
theorem e_lconst {n : Fin 2} (hd : decode (bOf M) pc = .ok (.lconst n, 1)) : Ev d M pc L st μ Q = Ev d M (pc + 1) L (.long (Int64.ofNat (n : Nat)) :: st) μ Q := ev_next hd rfl rfl rfl rfl
theorem e_ldc {j : Nat} {x : Int32} (hd : decode (bOf M) pc = .ok (.ldc j, 2)) (hx : mvKi (oOf M) j = some x) : Ev d M pc L st μ Q = Ev d M (pc + 2) L (.int x :: st) μ Q := ev_next hd rfl rfl rfl (by simp only [mNext, hx])
theorem e_ldc_w {j : Nat} {x : Int32} (hd : decode (bOf M) pc = .ok (.ldc_w j, 3)) (hx : mvKi (oOf M) j = some x) : Ev d M pc L st μ Q = Ev d M (pc + 3) L (.int x :: st) μ Q := ev_next hd rfl rfl rfl (by simp only [mNext, hx])
theorem e_ldc2_w {j : Nat} {x : Int64} (hd : decode (bOf M) pc = .ok (.ldc2_w j, 3)) (hx : mvKli (oOf M) j = some x) : Ev d M pc L st μ Q = Ev d M (pc + 3) L (.long x :: st) μ Q := ev_next hd rfl rfl rfl (by simp only [mNext, hx])
theorem e_iload_n {k : Fin 4} {x : Int32} (hd : decode (bOf M) pc = .ok (.iload_n k, 1)) (h : L[(k : Nat)]? = some (.int x)) : Ev d M pc L st μ Q = Ev d M (pc + 1) L (.int x :: st) μ Q := ev_next hd rfl rfl rfl (by simp only [mNext, h])
theorem e_iload {k : Nat} {x : Int32} (hd : decode (bOf M) pc = .ok (.iload k, 2)) (h : L[k]? = some (.int x)) : Ev d M pc L st μ Q = Ev d M (pc + 2) L (.int x :: st) μ Q := ev_next hd rfl rfl rfl (by simp only [mNext, h])
theorem e_aload_n {k : Fin 4} {x : Nat} (hd : decode (bOf M) pc = .ok (.aload_n k, 1)) (h : L[(k : Nat)]? = some (.ref x)) : Ev d M pc L st μ Q = Ev d M (pc + 1) L (.ref x :: st) μ Q := ev_next hd rfl rfl rfl (by simp only [mNext, h])
theorem e_aload {k : Nat} {x : Nat} (hd : decode (bOf M) pc = .ok (.aload k, 2)) (h : L[k]? = some (.ref x)) : Ev d M pc L st μ Q = Ev d M (pc + 2) L (.ref x :: st) μ Q := ev_next hd rfl rfl rfl (by simp only [mNext, h])
theorem e_lload_n {k : Fin 4} {x : Int64} (hd : decode (bOf M) pc = .ok (.lload_n k, 1)) (h : L[(k : Nat)]? = some (.long x)) : Ev d M pc L st μ Q = Ev d M (pc + 1) L (.long x :: st) μ Q := ev_next hd rfl rfl rfl (by simp only [mNext, h])
theorem e_lload {k : Nat} {x : Int64} (hd : decode (bOf M) pc = .ok (.lload k, 2)) (h : L[k]? = some (.long x)) : Ev d M pc L st μ Q = Ev d M (pc + 2) L (.long x :: st) μ Q := ev_next hd rfl rfl rfl (by simp only [mNext, h])
theorem e_istore_n {k : Fin 4} {x : Int32} (hd : decode (bOf M) pc = .ok (.istore_n k, 1)) (h : stOK L k = true) : Ev d M pc L (.int x :: st) μ Q = Ev d M (pc + 1) (L.set k (.int x)) st μ Q := ev_next hd rfl rfl rfl (by simp only [mNext, h, if_true])
theorem e_istore {k : Nat} {x : Int32} (hd : decode (bOf M) pc = .ok (.istore k, 2)) (h : stOK L k = true) : Ev d M pc L (.int x :: st) μ Q = Ev d M (pc + 2) (L.set k (.int x)) st μ Q := ev_next hd rfl rfl rfl (by simp only [mNext, h, if_true])
theorem e_astore_n {k : Fin 4} {x : Nat} (hd : decode (bOf M) pc = .ok (.astore_n k, 1)) (h : stOK L k = true) : Ev d M pc L (.ref x :: st) μ Q = Ev d M (pc + 1) (L.set k (.ref x)) st μ Q := ev_next hd rfl rfl rfl (by simp only [mNext, h, if_true])
theorem e_astore {k : Nat} {x : Nat} (hd : decode (bOf M) pc = .ok (.astore k, 2)) (h : stOK L k = true) : Ev d M pc L (.ref x :: st) μ Q = Ev d M (pc + 2) (L.set k (.ref x)) st μ Q := ev_next hd rfl rfl rfl (by simp only [mNext, h, if_true])
theorem e_lstore_n {k : Fin 4} {x : Int64} (hd : decode (bOf M) pc = .ok (.lstore_n k, 1)) (h : stOK L k = true ∧ (k : Nat) + 1 < L.length ∧ (L.getD (k + 1) .null).category = 1) : Ev d M pc L (.long x :: st) μ Q = Ev d M (pc + 1) ((L.set k (.long x)).set (k + 1) .null) st μ Q := ev_next hd rfl rfl rfl (by simp only [mNext]; exact if_pos h)
theorem e_lstore {k : Nat} {x : Int64} (hd : decode (bOf M) pc = .ok (.lstore k, 2)) (h : stOK L k = true ∧ (k : Nat) + 1 < L.length ∧ (L.getD (k + 1) .null).category = 1) : Ev d M pc L (.long x :: st) μ Q = Ev d M (pc + 2) ((L.set k (.long x)).set (k + 1) .null) st μ Q := ev_next hd rfl rfl rfl (by simp only [mNext]; exact if_pos h)
theorem e_iinc {k : Nat} {c : Int} {x : Int32} (hd : decode (bOf M) pc = .ok (.iinc k c, 3)) (h1 : L[k]? = some (.int x)) (h : stOK L k = true) : Ev d M pc L st μ Q = Ev d M (pc + 3) (L.set k (.int (x + Int32.ofInt c))) st μ Q := ev_next hd rfl rfl rfl (by simp only [mNext, h1, h, if_true])
-- numbers
theorem e_iadd {x y : Int32} (hd : decode (bOf M) pc = .ok (.iadd, 1)) : Ev d M pc L (.int y :: .int x :: st) μ Q = Ev d M (pc + 1) L (.int (x + y) :: st) μ Q := ev_next hd rfl rfl rfl rfl
theorem e_isub {x y : Int32} (hd : decode (bOf M) pc = .ok (.isub, 1)) : Ev d M pc L (.int y :: .int x :: st) μ Q = Ev d M (pc + 1) L (.int (x - y) :: st) μ Q := ev_next hd rfl rfl rfl rfl
theorem e_imul {x y : Int32} (hd : decode (bOf M) pc = .ok (.imul, 1)) : Ev d M pc L (.int y :: .int x :: st) μ Q = Ev d M (pc + 1) L (.int (x * y) :: st) μ Q := ev_next hd rfl rfl rfl rfl
theorem e_idiv {x y : Int32} (hd : decode (bOf M) pc = .ok (.idiv, 1)) (h : ¬ y = 0) : Ev d M pc L (.int y :: .int x :: st) μ Q = Ev d M (pc + 1) L (.int (x / y) :: st) μ Q := ev_next hd rfl rfl rfl (if_neg h)
theorem e_irem {x y : Int32} (hd : decode (bOf M) pc = .ok (.irem, 1)) (h : ¬ y = 0) : Ev d M pc L (.int y :: .int x :: st) μ Q = Ev d M (pc + 1) L (.int (x - x / y * y) :: st) μ Q := ev_next hd rfl rfl rfl (if_neg h)
theorem e_ineg {x : Int32} (hd : decode (bOf M) pc = .ok (.ineg, 1)) : Ev d M pc L (.int x :: st) μ Q = Ev d M (pc + 1) L (.int (-x) :: st) μ Q := ev_next hd rfl rfl rfl rfl
theorem e_iand {x y : Int32} (hd : decode (bOf M) pc = .ok (.iand, 1)) : Ev d M pc L (.int y :: .int x :: st) μ Q = Ev d M (pc + 1) L (.int (x &&& y) :: st) μ Q := ev_next hd rfl rfl rfl rfl
theorem e_ior {x y : Int32} (hd : decode (bOf M) pc = .ok (.ior, 1)) : Ev d M pc L (.int y :: .int x :: st) μ Q = Ev d M (pc + 1) L (.int (x ||| y) :: st) μ Q := ev_next hd rfl rfl rfl rfl
theorem e_ixor {x y : Int32} (hd : decode (bOf M) pc = .ok (.ixor, 1)) : Ev d M pc L (.int y :: .int x :: st) μ Q = Ev d M (pc + 1) L (.int (x ^^^ y) :: st) μ Q := ev_next hd rfl rfl rfl rfl
theorem e_ishl {x y : Int32} (hd : decode (bOf M) pc = .ok (.ishl, 1)) : Ev d M pc L (.int y :: .int x :: st) μ Q = Ev d M (pc + 1) L (.int (x <<< (y &&& 31)) :: st) μ Q := ev_next hd rfl rfl rfl rfl
theorem e_ishr {x y : Int32} (hd : decode (bOf M) pc = .ok (.ishr, 1)) : Ev d M pc L (.int y :: .int x :: st) μ Q = Ev d M (pc + 1) L (.int (x >>> (y &&& 31)) :: st) μ Q := ev_next hd rfl rfl rfl rfl
theorem e_iushr {x y : Int32} (hd : decode (bOf M) pc = .ok (.iushr, 1)) : Ev d M pc L (.int y :: .int x :: st) μ Q = Ev d M (pc + 1) L (.int (x.toUInt32 >>> (y.toUInt32 &&& Int32.toUInt32 31)).toInt32 :: st) μ Q := ev_next hd rfl rfl rfl rfl
theorem e_i2l {x : Int32} (hd : decode (bOf M) pc = .ok (.i2l, 1)) : Ev d M pc L (.int x :: st) μ Q = Ev d M (pc + 1) L (.long x.toInt64 :: st) μ Q := ev_next hd rfl rfl rfl rfl
theorem e_l2i {x : Int64} (hd : decode (bOf M) pc = .ok (.l2i, 1)) : Ev d M pc L (.long x :: st) μ Q = Ev d M (pc + 1) L (.int x.toInt32 :: st) μ Q := ev_next hd rfl rfl rfl rfl
theorem e_ladd {x y : Int64} (hd : decode (bOf M) pc = .ok (.ladd, 1)) : Ev d M pc L (.long y :: .long x :: st) μ Q = Ev d M (pc + 1) L (.long (x + y) :: st) μ Q := ev_next hd rfl rfl rfl rfl
theorem e_lmul {x y : Int64} (hd : decode (bOf M) pc = .ok (.lmul, 1)) : Ev d M pc L (.long y :: .long x :: st) μ Q = Ev d M (pc + 1) L (.long (x * y) :: st) μ Q := ev_next hd rfl rfl rfl rfl
theorem e_lcmp {x y : Int64} (hd : decode (bOf M) pc = .ok (.lcmp, 1)) : Ev d M pc L (.long y :: .long x :: st) μ Q = Ev d M (pc + 1) L (.int (lg_cmp x y) :: st) μ Q := ev_next hd rfl rfl rfl rfl
theorem e_dup_i {x : Int32} (hd : decode (bOf M) pc = .ok (.dup, 1)) : Ev d M pc L (.int x :: st) μ Q = Ev d M (pc + 1) L (.int x :: .int x :: st) μ Q := ev_next hd rfl rfl rfl rfl
theorem e_dup_a {x : Nat} (hd : decode (bOf M) pc = .ok (.dup, 1)) : Ev d M pc L (.ref x :: st) μ Q = Ev d M (pc + 1) L (.ref x :: .ref x :: st) μ Q := ev_next hd rfl rfl rfl rfl
theorem e_dup2 {x : Int32} {y : Nat} (hd : decode (bOf M) pc = .ok (.dup2, 1)) : Ev d M pc L (.int x :: .ref y :: st) μ Q = Ev d M (pc + 1) L (.int x :: .ref y :: .int x :: .ref y :: st) μ Q := ev_next hd rfl rfl rfl rfl
theorem e_pop {x : Int32} (hd : decode (bOf M) pc = .ok (.pop, 1)) : Ev d M pc L (.int x :: st) μ Q = Ev d M (pc + 1) L st μ Q := ev_next hd rfl rfl rfl rfl
-- branches
theorem e_goto {off : Int} {q : Nat} (hd : decode (bOf M) pc = .ok (.goto off, 3)) (ht : (pc : Int) + off = (q : Int)) : Ev d M pc L st μ Q = Ev d M q L st μ Q := ev_next hd rfl rfl rfl (by simp [mNext, tgt, ht])
theorem e_ifnull {off : Int} {x : Nat} (hd : decode (bOf M) pc = .ok (.ifnull off, 3)) : Ev d M pc L (.ref x :: st) μ Q = Ev d M (pc + 3) L st μ Q := ev_next hd rfl rfl rfl rfl
theorem e_ifnonnull {off : Int} {x q : Nat} (hd : decode (bOf M) pc = .ok (.ifnonnull off, 3)) (ht : (pc : Int) + off = (q : Int)) : Ev d M pc L (.ref x :: st) μ Q = Ev d M q L st μ Q := ev_next hd rfl rfl rfl (by simp [mNext, tgt, ht])
theorem e_icmp {cd : Jvm.ClassFile.Cond} {off : Int} {q : Nat} {x y : Int32} (hd : decode (bOf M) pc = .ok (.if_icmp cd off, 3)) (ht : (pc : Int) + off = (q : Int)) : Ev d M pc L (.int y :: .int x :: st) μ Q = if mCmp cd x y = true then Ev d M q L st μ Q else Ev d M (pc + 3) L st μ Q := by
  have h0 : 0 ≤ (pc : Int) + off := by omega
  by_cases h : mCmp cd x y = true
  · rw [if_pos h]
    exact ev_next hd rfl rfl rfl (by simp [mNext, tgt, ht, h])
  · rw [if_neg h]
    exact ev_next hd rfl rfl rfl (by simp [mNext, h, h0])
theorem e_ifc {cd : Jvm.ClassFile.Cond} {off : Int} {q : Nat} {x : Int32} (hd : decode (bOf M) pc = .ok (.ifCond cd off, 3)) (ht : (pc : Int) + off = (q : Int)) : Ev d M pc L (.int x :: st) μ Q = if mCmp cd x 0 = true then Ev d M q L st μ Q else Ev d M (pc + 3) L st μ Q := by
  have h0 : 0 ≤ (pc : Int) + off := by omega
  by_cases h : mCmp cd x 0 = true
  · rw [if_pos h]
    exact ev_next hd rfl rfl rfl (by simp [mNext, tgt, ht, h])
  · rw [if_neg h]
    exact ev_next hd rfl rfl rfl (by simp [mNext, h, h0])
theorem e_icmp_eq {off : Int} {q : Nat} {x y : Int32} (hd : decode (bOf M) pc = .ok (.if_icmp .eq off, 3)) (ht : (pc : Int) + off = (q : Int)) : Ev d M pc L (.int y :: .int x :: st) μ Q = if x = y then Ev d M q L st μ Q else Ev d M (pc + 3) L st μ Q := by rw [e_icmp hd ht]; simp [mCmp]
theorem e_icmp_ne {off : Int} {q : Nat} {x y : Int32} (hd : decode (bOf M) pc = .ok (.if_icmp .ne off, 3)) (ht : (pc : Int) + off = (q : Int)) : Ev d M pc L (.int y :: .int x :: st) μ Q = if x = y then Ev d M (pc + 3) L st μ Q else Ev d M q L st μ Q := by rw [e_icmp hd ht]; simp [mCmp]
theorem e_icmp_lt {off : Int} {q : Nat} {x y : Int32} (hd : decode (bOf M) pc = .ok (.if_icmp .lt off, 3)) (ht : (pc : Int) + off = (q : Int)) : Ev d M pc L (.int y :: .int x :: st) μ Q = if x < y then Ev d M q L st μ Q else Ev d M (pc + 3) L st μ Q := by rw [e_icmp hd ht]; simp [mCmp]
theorem e_icmp_ge {off : Int} {q : Nat} {x y : Int32} (hd : decode (bOf M) pc = .ok (.if_icmp .ge off, 3)) (ht : (pc : Int) + off = (q : Int)) : Ev d M pc L (.int y :: .int x :: st) μ Q = if x < y then Ev d M (pc + 3) L st μ Q else Ev d M q L st μ Q := by
  rw [e_icmp hd ht]
  by_cases h : x < y
  · rw [if_pos h, if_neg (by simp [mCmp]; exact h)]
  · rw [if_neg h, if_pos (by simp [mCmp]; exact Int32.not_lt.mp h)]
theorem e_icmp_gt {off : Int} {q : Nat} {x y : Int32} (hd : decode (bOf M) pc = .ok (.if_icmp .gt off, 3)) (ht : (pc : Int) + off = (q : Int)) : Ev d M pc L (.int y :: .int x :: st) μ Q = if y < x then Ev d M q L st μ Q else Ev d M (pc + 3) L st μ Q := by rw [e_icmp hd ht]; simp [mCmp]
theorem e_icmp_le {off : Int} {q : Nat} {x y : Int32} (hd : decode (bOf M) pc = .ok (.if_icmp .le off, 3)) (ht : (pc : Int) + off = (q : Int)) : Ev d M pc L (.int y :: .int x :: st) μ Q = if y < x then Ev d M (pc + 3) L st μ Q else Ev d M q L st μ Q := by
  rw [e_icmp hd ht]
  by_cases h : y < x
  · rw [if_pos h, if_neg (by simp [mCmp]; exact h)]
  · rw [if_neg h, if_pos (by simp [mCmp]; exact Int32.not_lt.mp h)]
theorem e_if_eq {off : Int} {q : Nat} {x : Int32} (hd : decode (bOf M) pc = .ok (.ifCond .eq off, 3)) (ht : (pc : Int) + off = (q : Int)) : Ev d M pc L (.int x :: st) μ Q = if x = iI 0 then Ev d M q L st μ Q else Ev d M (pc + 3) L st μ Q := by rw [e_ifc hd ht, iI0]; simp [mCmp]
theorem e_if_ne {off : Int} {q : Nat} {x : Int32} (hd : decode (bOf M) pc = .ok (.ifCond .ne off, 3)) (ht : (pc : Int) + off = (q : Int)) : Ev d M pc L (.int x :: st) μ Q = if x = iI 0 then Ev d M (pc + 3) L st μ Q else Ev d M q L st μ Q := by rw [e_ifc hd ht, iI0]; simp [mCmp]
theorem e_if_lt {off : Int} {q : Nat} {x : Int32} (hd : decode (bOf M) pc = .ok (.ifCond .lt off, 3)) (ht : (pc : Int) + off = (q : Int)) : Ev d M pc L (.int x :: st) μ Q = if x < iI 0 then Ev d M q L st μ Q else Ev d M (pc + 3) L st μ Q := by rw [e_ifc hd ht, iI0]; simp [mCmp]
theorem e_if_ge {off : Int} {q : Nat} {x : Int32} (hd : decode (bOf M) pc = .ok (.ifCond .ge off, 3)) (ht : (pc : Int) + off = (q : Int)) : Ev d M pc L (.int x :: st) μ Q = if x < iI 0 then Ev d M (pc + 3) L st μ Q else Ev d M q L st μ Q := by
  rw [e_ifc hd ht, iI0]
  by_cases h : x < 0
  · rw [if_pos h, if_neg (by simp [mCmp]; exact h)]
  · rw [if_neg h, if_pos (by simp [mCmp]; exact Int32.not_lt.mp h)]
theorem e_if_gt {off : Int} {q : Nat} {x : Int32} (hd : decode (bOf M) pc = .ok (.ifCond .gt off, 3)) (ht : (pc : Int) + off = (q : Int)) : Ev d M pc L (.int x :: st) μ Q = if iI 0 < x then Ev d M q L st μ Q else Ev d M (pc + 3) L st μ Q := by rw [e_ifc hd ht, iI0]; simp [mCmp]
theorem e_if_le {off : Int} {q : Nat} {x : Int32} (hd : decode (bOf M) pc = .ok (.ifCond .le off, 3)) (ht : (pc : Int) + off = (q : Int)) : Ev d M pc L (.int x :: st) μ Q = if iI 0 < x then Ev d M (pc + 3) L st μ Q else Ev d M q L st μ Q := by
  rw [e_ifc hd ht, iI0]
  by_cases h : 0 < x
  · rw [if_pos h, if_neg (by simp [mCmp]; exact h)]
  · rw [if_neg h, if_pos (by simp [mCmp]; exact Int32.not_lt.mp h)]
-- memory
theorem e_getf {j ci k a : Nat} (hd : decode (bOf M) pc = .ok (.getfield j, 3)) (hf : mvFl (oOf M) j = some (ci, k)) (hn : k < nfOf ci) (hk : kd t a = ci) : Ev d M pc L (.ref a :: st) (t, V, A, P) Q = Ev d M (pc + 3) L (V a k :: st) (t, V, A, P) Q := ev_next hd rfl rfl rfl (by simp [mNext, hf, hn, hk])
theorem e_putf {j ci k a : Nat} {v : Value} (hd : decode (bOf M) pc = .ok (.putfield j, 3)) (hf : mvFl (oOf M) j = some (ci, k)) (hn : k < nfOf ci) (hm : mayPut M ci k v = true) (hk : kd t a = ci) : Ev d M pc L (v :: .ref a :: st) (t, V, A, P) Q = Ev d M (pc + 3) L st (t, up1 V a (up1 (V a) k v), A, P) Q := ev_next hd rfl rfl rfl (by simp [mNext, hf, hn, hk, hm])
theorem e_gets {j a : Nat} (hd : decode (bOf M) pc = .ok (.getstatic j, 3)) (hf : mvSl (oOf M) j = some a) : Ev d M pc L st μ Q = Ev d M (pc + 3) L (.ref a :: st) μ Q := ev_next hd rfl rfl rfl (by simp [mNext, hf])
theorem e_iald {a : Nat} {i : Int32} (hd : decode (bOf M) pc = .ok (.iaload, 1)) (hk : kd t a = 6) (hi : inB i (ln t a) = true) : Ev d M pc L (.int i :: .ref a :: st) (t, V, A, P) Q = Ev d M (pc + 1) L (.int (A a i.toNatClampNeg) :: st) (t, V, A, P) Q := ev_next hd rfl rfl rfl (by simp [mNext, hk, hi])
theorem e_iald_ro {a : Nat} {i : Int32} (hd : decode (bOf M) pc = .ok (.iaload, 1)) (hk : kd t a = 10) (hi : inB i (ln t a) = true) : Ev d M pc L (.int i :: .ref a :: st) (t, V, A, P) Q = Ev d M (pc + 1) L (.int (A a i.toNatClampNeg) :: st) (t, V, A, P) Q := ev_next hd rfl rfl rfl (by simp [mNext, hk, hi])
theorem e_bald {a : Nat} {i : Int32} (hd : decode (bOf M) pc = .ok (.baload, 1)) (hk : kd t a = 7) (hi : inB i (ln t a) = true) : Ev d M pc L (.int i :: .ref a :: st) (t, V, A, P) Q = Ev d M (pc + 1) L (.int (A a i.toNatClampNeg) :: st) (t, V, A, P) Q := ev_next hd rfl rfl rfl (by simp [mNext, hk, hi])
theorem e_iast {a : Nat} {i x : Int32} (hd : decode (bOf M) pc = .ok (.iastore, 1)) (hk : kd t a = 6) (hi : inB i (ln t a) = true) : Ev d M pc L (.int x :: .int i :: .ref a :: st) (t, V, A, P) Q = Ev d M (pc + 1) L st (t, V, up1 A a (upd (A a) i.toNatClampNeg x), P) Q := ev_next hd rfl rfl rfl (by simp [mNext, hk, hi])
theorem e_bast {a : Nat} {i x : Int32} (hd : decode (bOf M) pc = .ok (.bastore, 1)) (hk : kd t a = 7) (hi : inB i (ln t a) = true) (hx : isB x) : Ev d M pc L (.int x :: .int i :: .ref a :: st) (t, V, A, P) Q = Ev d M (pc + 1) L st (t, V, up1 A a (upd (A a) i.toNatClampNeg x), P) Q := ev_next hd rfl rfl rfl (by simp only [mNext]; exact if_pos ⟨hk, hi, hx⟩)
theorem e_aald {a : Nat} {i : Int32} (c : Nat) (hc : c = 8 ∨ c = 9) (hd : decode (bOf M) pc = .ok (.aaload, 1)) (hk : kd t a = c) (hi : inB i (ln t a) = true) : Ev d M pc L (.int i :: .ref a :: st) (t, V, A, P) Q = Ev d M (pc + 1) L (va_rf (P a i.toNatClampNeg) :: st) (t, V, A, P) Q := ev_next hd rfl rfl rfl (by rcases hc with rfl | rfl <;> simp [mNext, hk, hi])
theorem e_aast8 {a v : Nat} {i : Int32} (hd : decode (bOf M) pc = .ok (.aastore, 1)) (hk : kd t a = 8) (hv : kd t v = 2) (hi : inB i (ln t a) = true) : Ev d M pc L (.ref v :: .int i :: .ref a :: st) (t, V, A, P) Q = Ev d M (pc + 1) L st (t, V, A, up1 P a (up1 (P a) i.toNatClampNeg (some v))) Q := ev_next hd rfl rfl rfl (by simp [mNext, hk, hi, hv])
theorem e_aast9 {a v : Nat} {i : Int32} (hd : decode (bOf M) pc = .ok (.aastore, 1)) (hk : kd t a = 9) (hv : kd t v = 3) (hi : inB i (ln t a) = true) : Ev d M pc L (.ref v :: .int i :: .ref a :: st) (t, V, A, P) Q = Ev d M (pc + 1) L st (t, V, A, up1 P a (up1 (P a) i.toNatClampNeg (some v))) Q := ev_next hd rfl rfl rfl (by simp [mNext, hk, hi, hv])
theorem e_alen {a : Nat} (hd : decode (bOf M) pc = .ok (.arraylength, 1)) (hk : kd t a = 10) : Ev d M pc L (.ref a :: st) (t, V, A, P) Q = Ev d M (pc + 1) L (.int (Int32.ofNat (ln t a)) :: st) (t, V, A, P) Q := ev_next hd rfl rfl rfl (by simp [mNext, hk])
-- making
variable {N S : Nat} {K : Nat → Nat × Nat}
theorem e_newi {c : Int} (n : Nat) (hd : decode (bOf M) pc = .ok (.newarray .int, 2)) (h0 : ¬ (Int32.ofInt c < 0 ∨ 100000 ≤ (Int32.ofInt c).toNatClampNeg)) (hn : (Int32.ofInt c).toNatClampNeg = n) : Ev d M pc L (.int (Int32.ofInt c) :: st) ((N, S, K), V, A, P) Q = Ev d M (pc + 2) L (.ref N :: st) ((N + 1, S + n, up1 K N (6, n)), V, up1 A N (fun _ => 0), P) Q := ev_next hd rfl rfl rfl (by subst hn; simp only [mNext, h0, if_false])
theorem e_newz {c : Int} (n : Nat) (hd : decode (bOf M) pc = .ok (.newarray .boolean, 2)) (h0 : ¬ (Int32.ofInt c < 0 ∨ 100000 ≤ (Int32.ofInt c).toNatClampNeg)) (hn : (Int32.ofInt c).toNatClampNeg = n) : Ev d M pc L (.int (Int32.ofInt c) :: st) ((N, S, K), V, A, P) Q = Ev d M (pc + 2) L (.ref N :: st) ((N + 1, S + n, up1 K N (7, n)), V, up1 A N (fun _ => 0), P) Q := ev_next hd rfl rfl rfl (by subst hn; simp only [mNext, h0, if_false])
theorem e_newq {c : Int} {j ci : Nat} (n : Nat) (hd : decode (bOf M) pc = .ok (.anewarray j, 3)) (hj : mvNl (oOf M) j = some ci) (h0 : ¬ (Int32.ofInt c < 0 ∨ 100000 ≤ (Int32.ofInt c).toNatClampNeg ∨ ¬ (ci = 2 ∨ ci = 3))) (hn : (Int32.ofInt c).toNatClampNeg = n) : Ev d M pc L (.int (Int32.ofInt c) :: st) ((N, S, K), V, A, P) Q = Ev d M (pc + 3) L (.ref N :: st) ((N + 1, S + n, up1 K N (ci + 6, n)), V, A, up1 P N (fun _ => none)) Q := ev_next hd rfl rfl rfl (by subst hn; simp only [mNext, hj, h0, if_false])
theorem e_new {j ci : Nat} (n : Nat) (df : List Value) (hd : decode (bOf M) pc = .ok (.new j, 3)) (hj : mvNl (oOf M) j = some ci) (hci : ci < 6) (hn : nfOf ci = n) (hdf : dfOf ci = df) : Ev d M pc L st ((N, S, K), V, A, P) Q = Ev d M (pc + 3) L (.ref N :: st) ((N + 1, S + n, up1 K N (ci, n)), up1 V N (rw' df), A, P) Q := ev_next hd rfl rfl rfl (by subst hn; subst hdf; simp only [mNext, hj, hci, if_true])
theorem e_obj {j a : Nat} (hd : decode (bOf M) pc = .ok (.invokespecial j, 3)) (hj : mvObl (oOf M) j = true) (hc : mvCl (oOf M) j = none) : Ev d M pc L (.ref a :: st) μ Q = Ev d M (pc + 3) L st μ Q := ev_next hd rfl rfl (by simp only [mCall, hc]) (by simp only [mNext, hj, if_true])
-- switch
theorem e_sw {x : Int32} {df lo hi : Int} {offs : Array Int} (hd : decode (bOf M) pc = .ok (.tableswitch df lo hi offs, len)) {pc1 : Nat} (h : mNext M (.tableswitch df lo hi offs) pc L (.int x :: st) μ = some (pc1, L, st, μ)) : Ev d M pc L (.int x :: st) μ Q = Ev d M pc1 L st μ Q := ev_next hd trivial rfl rfl h
theorem iI_toInt {z : Int} (h1 : -2147483648 ≤ z) (h2 : z < 2147483648) : (iI z).toInt = z := Int32.toInt_ofInt_of_le (by omega) (by omega)
theorem iI_self (x : Int32) : iI x.toInt = x := Int32.ofInt_toInt x
theorem sw_in {x : Int32} {df hi off j : Int} {offs : Array Int} {q : Nat} (hx : x = iI j) (h0 : 0 ≤ j) (h1 : j ≤ hi) (h2 : hi < 2147483648) (ho : offs[j.toNat]? = some off) (ht : (pc : Int) + off = (q : Int)) : mNext M (.tableswitch df 0 hi offs) pc L (.int x :: st) μ = some (q, L, st, μ) := by
  have e : x.toInt = j := by rw [hx]; exact iI_toInt (by omega) (by omega)
  have h : ¬ (x.toInt < 0 ∨ hi < x.toInt) := by omega
  have h3 : 0 ≤ (q : Int) := by omega
  rw [e] at h
  simp only [mNext, e, if_neg h, Int.sub_zero, ho, tgt, ht, if_pos h3, Int.toNat_natCast]
theorem sw_out {x : Int32} {df hi : Int} {offs : Array Int} {q : Nat} (h : x.toInt < 0 ∨ hi < x.toInt) (ht : (pc : Int) + df = (q : Int)) : mNext M (.tableswitch df 0 hi offs) pc L (.int x :: st) μ = some (q, L, st, μ) := by
  have h3 : 0 ≤ (q : Int) := by omega
  simp only [mNext, if_pos h, tgt, ht, if_pos h3, Int.toNat_natCast]
theorem ne_toInt {x : Int32} {j : Int} (h : ¬ x = iI j) : ¬ x.toInt = j := fun e => h (by rw [← e]; exact (iI_self x).symm)
-- calls and returns
theorem e_iret {x : Int32} (hd : decode (bOf M) pc = .ok (.ireturn, 1)) (hr : rtOf M = some .int) : Ev d M pc L [.int x] μ Q = Q (some (.int x)) μ := ev_ret hd rfl (by simp [mRet, hr]) rfl rfl
theorem e_zret {x : Int32} (hd : decode (bOf M) pc = .ok (.ireturn, 1)) (hr : rtOf M = some .boolean) (hx : isB x) : Ev d M pc L [.int x] μ Q = Q (some (.int x)) μ := ev_ret hd rfl (by simp only [mRet, hr]; exact if_pos hx) rfl rfl
theorem e_ret (hd : decode (bOf M) pc = .ok (.return_, 1)) (hr : rtOf M = none) : Ev d M pc L [] μ Q = Q none μ := ev_ret hd rfl (by simp [mRet, hr]) rfl rfl
theorem e_callS {j k : Nat} {a r : List Value} (hd : decode (bOf M) pc = .ok (.invokestatic j, 3)) (hj : mvCl (oOf M) j = some k) (hs : stOf k = true) (hn : naOf k = a.length) (hr : r.length ≤ 4) : Ev d M pc L (a.reverse ++ r) μ Q = Call d k a μ (fun v μ1 => Ev d M (pc + 3) L (v.toList ++ r) μ1 Q) := ev_call hd rfl rfl (by simp [mCall, hj, hs, hn, List.take_left', List.drop_left']) (cat_4 hr) rfl
theorem e_callV {j k c b : Nat} {a r : List Value} (hd : decode (bOf M) pc = .ok (.invokevirtual j, 3)) (hj : mvCl (oOf M) j = some k) (hs : stOf k = false) (hi : isInit k = false) (hn : naOf k = a.length + 1) (hr : r.length ≤ 4) (hc : oOf k = c) (hk : kd t b = c) : Ev d M pc L (a.reverse ++ .ref b :: r) (t, V, A, P) Q = Call d k (.ref b :: a) (t, V, A, P) (fun v μ1 => Ev d M (pc + 3) L (v.toList ++ r) μ1 Q) := by
  have e : a.reverse ++ .ref b :: r = (Value.ref b :: a).reverse ++ r := by simp
  rw [e]
  refine ev_call hd rfl rfl ?_ (cat_4 hr) rfl
  have h1 : ((Value.ref b :: a).reverse ++ r).take (a.length + 1) = (Value.ref b :: a).reverse := List.take_left' (by simp)
  have h2 : ((Value.ref b :: a).reverse ++ r).drop (a.length + 1) = r := List.drop_left' (by simp)
  simp only [mCall, hj, hs, hi, hn, h1, h2, List.reverse_reverse]
  simp [rcv, hk, hc]
theorem e_callI {j k b : Nat} {a r : List Value} (hd : decode (bOf M) pc = .ok (.invokespecial j, 3)) (hj : mvCl (oOf M) j = some k) (ho : mvObl (oOf M) j = false) (hs : stOf k = false) (hi : isInit k = true) (hn : naOf k = a.length + 1) (hr : r.length ≤ 4) : Ev d M pc L (a.reverse ++ .ref b :: r) μ Q = Call d k (.ref b :: a) μ (fun v μ1 => Ev d M (pc + 3) L (v.toList ++ r) μ1 Q) := by
  have e : a.reverse ++ .ref b :: r = (Value.ref b :: a).reverse ++ r := by simp
  rw [e]
  refine ev_call hd rfl rfl ?_ (cat_4 hr) (by simp [mNext, ho])
  have h1 : ((Value.ref b :: a).reverse ++ r).take (a.length + 1) = (Value.ref b :: a).reverse := List.take_left' (by simp)
  have h2 : ((Value.ref b :: a).reverse ++ r).drop (a.length + 1) = r := List.drop_left' (by simp)
  simp only [mCall, hj, hs, hi, hn, h1, h2, List.reverse_reverse]
  simp [rcI]
end EV
end
section
section Xa
variable {d : Nat} {L st : List Value} {μ : mM} {Q : Option Value → mM → Prop} {t : mL} {V : Nat → Nat → Value} {A : Nat → Nat → Int32} {P : Nat → Nat → Option Nat} {N S : Nat} {K : Nat → Nat × Nat}
variable {a0 a1 a2 a3 a4 a5 a6 a7 a8 a9 a10 a11 a12 b0 b1 b2 b3 s0 s1 s2 s3 : Value} {x y : Int32} {w z : Int64} {r q : Nat}
theorem c_0 : Call (d + 1) 0 [a0] μ Q = Ev d 0 0 [a0] [] μ Q := call_ev rfl
theorem x_0_0 : Ev d 0 0 (.int x :: L) st μ Q = Ev d 0 1 (.int x :: L) (.int x :: st) μ Q := e_iload_n (by decide +kernel : decode (bOf 0) 0 = .ok (.iload_n 0, 1)) rfl
theorem x_0_1 : Ev d 0 1 L (.int x :: st) μ Q = if x < iI 0 then Ev d 0 14 L st μ Q else Ev d 0 4 L st μ Q := e_if_lt (by decide +kernel : decode (bOf 0) 1 = .ok (.ifCond .lt 13, 3)) (by omega)
theorem x_0_4 : Ev d 0 4 (.int x :: L) st μ Q = Ev d 0 5 (.int x :: L) (.int x :: st) μ Q := e_iload_n (by decide +kernel : decode (bOf 0) 4 = .ok (.iload_n 0, 1)) rfl
theorem x_0_5 : Ev d 0 5 L st μ Q = Ev d 0 7 L (.int (iI 34) :: st) μ Q := e_bipush (by decide +kernel : decode (bOf 0) 5 = .ok (.bipush 34, 2)) (by decide +kernel)
theorem x_0_7 : Ev d 0 7 L (.int y :: .int x :: st) μ Q = if x < y then Ev d 0 10 L st μ Q else Ev d 0 14 L st μ Q := e_icmp_ge (by decide +kernel : decode (bOf 0) 7 = .ok (.if_icmp .ge 7, 3)) (by omega)
theorem x_0_10 : Ev d 0 10 L st μ Q = Ev d 0 11 L (.int (iI 1) :: st) μ Q := e_iconst (by decide +kernel : decode (bOf 0) 10 = .ok (.iconst 1, 1))
theorem x_0_11 : Ev d 0 11 L st μ Q = Ev d 0 15 L st μ Q := e_goto (by decide +kernel : decode (bOf 0) 11 = .ok (.goto 4, 3)) (by omega)
theorem x_0_14 : Ev d 0 14 L st μ Q = Ev d 0 15 L (.int (iI 0) :: st) μ Q := e_iconst (by decide +kernel : decode (bOf 0) 14 = .ok (.iconst 0, 1))
theorem x_0_15 (hx : isB x) : Ev d 0 15 L [.int x] μ Q = Q (some (.int x)) μ := e_zret (by decide +kernel : decode (bOf 0) 15 = .ok (.ireturn, 1)) (by decide +kernel) hx
theorem c_1 : Call (d + 1) 1 [a0] μ Q = Ev d 1 0 [a0] [] μ Q := call_ev rfl
theorem x_1_0 : Ev d 1 0 (.int x :: L) st μ Q = Ev d 1 1 (.int x :: L) (.int x :: st) μ Q := e_iload_n (by decide +kernel : decode (bOf 1) 0 = .ok (.iload_n 0, 1)) rfl
theorem x_1_1 : Ev d 1 1 L (.int x :: st) μ Q = if x < iI 0 then Ev d 1 20 L st μ Q else Ev d 1 4 L st μ Q := e_if_lt (by decide +kernel : decode (bOf 1) 1 = .ok (.ifCond .lt 19, 3)) (by omega)
theorem x_1_4 : Ev d 1 4 (.int x :: L) st μ Q = Ev d 1 5 (.int x :: L) (.int x :: st) μ Q := e_iload_n (by decide +kernel : decode (bOf 1) 4 = .ok (.iload_n 0, 1)) rfl
theorem x_1_5 : Ev d 1 5 L st μ Q = Ev d 1 8 L (.ref 0 :: st) μ Q := e_gets (by decide +kernel : decode (bOf 1) 5 = .ok (.getstatic 9, 3)) (by decide +kernel)
theorem x_1_8 (h : kd t r = 10) : Ev d 1 8 L (.ref r :: st) (t, V, A, P) Q = Ev d 1 9 L (.int (Int32.ofNat (ln t r)) :: st) (t, V, A, P) Q := e_alen (by decide +kernel : decode (bOf 1) 8 = .ok (.arraylength, 1)) h
theorem x_1_9 : Ev d 1 9 L (.int y :: .int x :: st) μ Q = if x < y then Ev d 1 12 L st μ Q else Ev d 1 20 L st μ Q := e_icmp_ge (by decide +kernel : decode (bOf 1) 9 = .ok (.if_icmp .ge 11, 3)) (by omega)
theorem x_1_12 : Ev d 1 12 L st μ Q = Ev d 1 15 L (.ref 0 :: st) μ Q := e_gets (by decide +kernel : decode (bOf 1) 12 = .ok (.getstatic 9, 3)) (by decide +kernel)
theorem x_1_15 : Ev d 1 15 (.int x :: L) st μ Q = Ev d 1 16 (.int x :: L) (.int x :: st) μ Q := e_iload_n (by decide +kernel : decode (bOf 1) 15 = .ok (.iload_n 0, 1)) rfl
theorem x_1_16 (h : kd t r = 10) (hi : inB x (ln t r) = true) : Ev d 1 16 L (.int x :: .ref r :: st) (t, V, A, P) Q = Ev d 1 17 L (.int (A r x.toNatClampNeg) :: st) (t, V, A, P) Q := e_iald_ro (by decide +kernel : decode (bOf 1) 16 = .ok (.iaload, 1)) h hi
theorem x_1_17 : Ev d 1 17 L st μ Q = Ev d 1 21 L st μ Q := e_goto (by decide +kernel : decode (bOf 1) 17 = .ok (.goto 4, 3)) (by omega)
theorem x_1_20 : Ev d 1 20 L st μ Q = Ev d 1 21 L (.int (iI 0) :: st) μ Q := e_iconst (by decide +kernel : decode (bOf 1) 20 = .ok (.iconst 0, 1))
theorem x_1_21 : Ev d 1 21 L [.int x] μ Q = Q (some (.int x)) μ := e_iret (by decide +kernel : decode (bOf 1) 21 = .ok (.ireturn, 1)) (by decide +kernel)
theorem c_2 : Call (d + 1) 2 [a0] μ Q = Ev d 2 0 [a0] [] μ Q := call_ev rfl
theorem x_2_0 : Ev d 2 0 (.int x :: L) st μ Q = Ev d 2 1 (.int x :: L) (.int x :: st) μ Q := e_iload_n (by decide +kernel : decode (bOf 2) 0 = .ok (.iload_n 0, 1)) rfl
theorem x_2_1 : Ev d 2 1 L st μ Q = Ev d 2 3 L (.int (iI 18) :: st) μ Q := e_bipush (by decide +kernel : decode (bOf 2) 1 = .ok (.bipush 18, 2)) (by decide +kernel)
theorem x_2_3 : Ev d 2 3 L (.int y :: .int x :: st) μ Q = if x < y then Ev d 2 6 L st μ Q else Ev d 2 13 L st μ Q := e_icmp_ge (by decide +kernel : decode (bOf 2) 3 = .ok (.if_icmp .ge 10, 3)) (by omega)
theorem x_2_6 : Ev d 2 6 (.int x :: L) st μ Q = Ev d 2 7 (.int x :: L) (.int x :: st) μ Q := e_iload_n (by decide +kernel : decode (bOf 2) 6 = .ok (.iload_n 0, 1)) rfl
theorem x_2_7 : Ev d 2 7 L [b0] μ Q = Call d 1 [b0] μ (fun v μ1 => Ev d 2 10 L (v.toList ++ []) μ1 Q) := e_callS (a := [b0]) (r := []) (by decide +kernel : decode (bOf 2) 7 = .ok (.invokestatic 15, 3)) (by decide +kernel) (by decide +kernel) (by decide +kernel) (by simp)
theorem x_2_10 : Ev d 2 10 L st μ Q = Ev d 2 20 L st μ Q := e_goto (by decide +kernel : decode (bOf 2) 10 = .ok (.goto 10, 3)) (by omega)
theorem x_2_13 : Ev d 2 13 L st μ Q = Ev d 2 15 L (.int (iI 63) :: st) μ Q := e_bipush (by decide +kernel : decode (bOf 2) 13 = .ok (.bipush 63, 2)) (by decide +kernel)
theorem x_2_15 : Ev d 2 15 (.int x :: L) st μ Q = Ev d 2 16 (.int x :: L) (.int x :: st) μ Q := e_iload_n (by decide +kernel : decode (bOf 2) 15 = .ok (.iload_n 0, 1)) rfl
theorem x_2_16 : Ev d 2 16 L [b0, s0] μ Q = Call d 1 [b0] μ (fun v μ1 => Ev d 2 19 L (v.toList ++ [s0]) μ1 Q) := e_callS (a := [b0]) (r := [s0]) (by decide +kernel : decode (bOf 2) 16 = .ok (.invokestatic 15, 3)) (by decide +kernel) (by decide +kernel) (by decide +kernel) (by simp)
theorem x_2_19 : Ev d 2 19 L (.int y :: .int x :: st) μ Q = Ev d 2 20 L (.int (x - y) :: st) μ Q := e_isub (by decide +kernel : decode (bOf 2) 19 = .ok (.isub, 1))
theorem x_2_20 : Ev d 2 20 L [.int x] μ Q = Q (some (.int x)) μ := e_iret (by decide +kernel : decode (bOf 2) 20 = .ok (.ireturn, 1)) (by decide +kernel)
theorem c_3 : Call (d + 1) 3 [a0, a1] μ Q = Ev d 3 0 [a0, a1] [] μ Q := call_ev rfl
theorem x_3_0 : Ev d 3 0 (a0 :: .int x :: L) st μ Q = Ev d 3 1 (a0 :: .int x :: L) (.int x :: st) μ Q := e_iload_n (by decide +kernel : decode (bOf 3) 0 = .ok (.iload_n 1, 1)) rfl
theorem x_3_1 : Ev d 3 1 L st μ Q = Ev d 3 2 L (.int (iI 1) :: st) μ Q := e_iconst (by decide +kernel : decode (bOf 3) 1 = .ok (.iconst 1, 1))
theorem x_3_2 : Ev d 3 2 L (.int y :: .int x :: st) μ Q = if x = y then Ev d 3 5 L st μ Q else Ev d 3 12 L st μ Q := e_icmp_ne (by decide +kernel : decode (bOf 3) 2 = .ok (.if_icmp .ne 10, 3)) (by omega)
theorem x_3_5 : Ev d 3 5 (.int x :: L) st μ Q = Ev d 3 6 (.int x :: L) (.int x :: st) μ Q := e_iload_n (by decide +kernel : decode (bOf 3) 5 = .ok (.iload_n 0, 1)) rfl
theorem x_3_6 : Ev d 3 6 L [b0] μ Q = Call d 2 [b0] μ (fun v μ1 => Ev d 3 9 L (v.toList ++ []) μ1 Q) := e_callS (a := [b0]) (r := []) (by decide +kernel : decode (bOf 3) 6 = .ok (.invokestatic 19, 3)) (by decide +kernel) (by decide +kernel) (by decide +kernel) (by simp)
theorem x_3_9 : Ev d 3 9 L st μ Q = Ev d 3 16 L st μ Q := e_goto (by decide +kernel : decode (bOf 3) 9 = .ok (.goto 7, 3)) (by omega)
theorem x_3_12 : Ev d 3 12 (.int x :: L) st μ Q = Ev d 3 13 (.int x :: L) (.int x :: st) μ Q := e_iload_n (by decide +kernel : decode (bOf 3) 12 = .ok (.iload_n 0, 1)) rfl
theorem x_3_13 : Ev d 3 13 L [b0] μ Q = Call d 1 [b0] μ (fun v μ1 => Ev d 3 16 L (v.toList ++ []) μ1 Q) := e_callS (a := [b0]) (r := []) (by decide +kernel : decode (bOf 3) 13 = .ok (.invokestatic 15, 3)) (by decide +kernel) (by decide +kernel) (by decide +kernel) (by simp)
theorem x_3_16 : Ev d 3 16 L [.int x] μ Q = Q (some (.int x)) μ := e_iret (by decide +kernel : decode (bOf 3) 16 = .ok (.ireturn, 1)) (by decide +kernel)
theorem c_4 : Call (d + 1) 4 [a0] μ Q = Ev d 4 0 [a0] [] μ Q := call_ev rfl
theorem x_4_0 : Ev d 4 0 (.int x :: L) st μ Q = Ev d 4 1 (.int x :: L) (.int x :: st) μ Q := e_iload_n (by decide +kernel : decode (bOf 4) 0 = .ok (.iload_n 0, 1)) rfl
theorem x_4_1 : Ev d 4 1 L (.int x :: st) μ Q = if x < iI 0 then Ev d 4 20 L st μ Q else Ev d 4 4 L st μ Q := e_if_lt (by decide +kernel : decode (bOf 4) 1 = .ok (.ifCond .lt 19, 3)) (by omega)
theorem x_4_4 : Ev d 4 4 (.int x :: L) st μ Q = Ev d 4 5 (.int x :: L) (.int x :: st) μ Q := e_iload_n (by decide +kernel : decode (bOf 4) 4 = .ok (.iload_n 0, 1)) rfl
theorem x_4_5 : Ev d 4 5 L st μ Q = Ev d 4 8 L (.ref 1 :: st) μ Q := e_gets (by decide +kernel : decode (bOf 4) 5 = .ok (.getstatic 22, 3)) (by decide +kernel)
theorem x_4_8 (h : kd t r = 10) : Ev d 4 8 L (.ref r :: st) (t, V, A, P) Q = Ev d 4 9 L (.int (Int32.ofNat (ln t r)) :: st) (t, V, A, P) Q := e_alen (by decide +kernel : decode (bOf 4) 8 = .ok (.arraylength, 1)) h
theorem x_4_9 : Ev d 4 9 L (.int y :: .int x :: st) μ Q = if x < y then Ev d 4 12 L st μ Q else Ev d 4 20 L st μ Q := e_icmp_ge (by decide +kernel : decode (bOf 4) 9 = .ok (.if_icmp .ge 11, 3)) (by omega)
theorem x_4_12 : Ev d 4 12 L st μ Q = Ev d 4 15 L (.ref 1 :: st) μ Q := e_gets (by decide +kernel : decode (bOf 4) 12 = .ok (.getstatic 22, 3)) (by decide +kernel)
theorem x_4_15 : Ev d 4 15 (.int x :: L) st μ Q = Ev d 4 16 (.int x :: L) (.int x :: st) μ Q := e_iload_n (by decide +kernel : decode (bOf 4) 15 = .ok (.iload_n 0, 1)) rfl
theorem x_4_16 (h : kd t r = 10) (hi : inB x (ln t r) = true) : Ev d 4 16 L (.int x :: .ref r :: st) (t, V, A, P) Q = Ev d 4 17 L (.int (A r x.toNatClampNeg) :: st) (t, V, A, P) Q := e_iald_ro (by decide +kernel : decode (bOf 4) 16 = .ok (.iaload, 1)) h hi
theorem x_4_17 : Ev d 4 17 L st μ Q = Ev d 4 22 L st μ Q := e_goto (by decide +kernel : decode (bOf 4) 17 = .ok (.goto 5, 3)) (by omega)
theorem x_4_20 : Ev d 4 20 L st μ Q = Ev d 4 22 L (.int (iI (-9)) :: st) μ Q := e_bipush (by decide +kernel : decode (bOf 4) 20 = .ok (.bipush (-9), 2)) (by decide +kernel)
theorem x_4_22 : Ev d 4 22 L [.int x] μ Q = Q (some (.int x)) μ := e_iret (by decide +kernel : decode (bOf 4) 22 = .ok (.ireturn, 1)) (by decide +kernel)
theorem c_5 : Call (d + 1) 5 [a0, a1] μ Q = Ev d 5 0 [a0, a1, .null] [] μ Q := call_ev rfl
theorem x_5_0 : Ev d 5 0 (.int x :: L) st μ Q = Ev d 5 1 (.int x :: L) (.int x :: st) μ Q := e_iload_n (by decide +kernel : decode (bOf 5) 0 = .ok (.iload_n 0, 1)) rfl
theorem x_5_1 : Ev d 5 1 L [b0] μ Q = Call d 4 [b0] μ (fun v μ1 => Ev d 5 4 L (v.toList ++ []) μ1 Q) := e_callS (a := [b0]) (r := []) (by decide +kernel : decode (bOf 5) 1 = .ok (.invokestatic 25, 3)) (by decide +kernel) (by decide +kernel) (by decide +kernel) (by simp)
theorem x_5_4 (h : a1.category = 1) : Ev d 5 4 (a0 :: a1 :: a2 :: L) (.int x :: st) μ Q = Ev d 5 5 (a0 :: a1 :: .int x :: L) st μ Q := e_istore_n (by decide +kernel : decode (bOf 5) 4 = .ok (.istore_n 2, 1)) (by simp [stOK, h])
theorem x_5_5 : Ev d 5 5 (a0 :: a1 :: .int x :: L) st μ Q = Ev d 5 6 (a0 :: a1 :: .int x :: L) (.int x :: st) μ Q := e_iload_n (by decide +kernel : decode (bOf 5) 5 = .ok (.iload_n 2, 1)) rfl
theorem x_5_6 : Ev d 5 6 L st μ Q = Ev d 5 8 L (.int (iI (-9)) :: st) μ Q := e_bipush (by decide +kernel : decode (bOf 5) 6 = .ok (.bipush (-9), 2)) (by decide +kernel)
theorem x_5_8 : Ev d 5 8 L (.int y :: .int x :: st) μ Q = if x = y then Ev d 5 24 L st μ Q else Ev d 5 11 L st μ Q := e_icmp_eq (by decide +kernel : decode (bOf 5) 8 = .ok (.if_icmp .eq 16, 3)) (by omega)
theorem x_5_11 : Ev d 5 11 (a0 :: a1 :: .int x :: L) st μ Q = Ev d 5 12 (a0 :: a1 :: .int x :: L) (.int x :: st) μ Q := e_iload_n (by decide +kernel : decode (bOf 5) 11 = .ok (.iload_n 2, 1)) rfl
theorem x_5_12 : Ev d 5 12 (a0 :: .int x :: L) st μ Q = Ev d 5 13 (a0 :: .int x :: L) (.int x :: st) μ Q := e_iload_n (by decide +kernel : decode (bOf 5) 12 = .ok (.iload_n 1, 1)) rfl
theorem x_5_13 : Ev d 5 13 L [b1, b0] μ Q = Call d 3 [b0, b1] μ (fun v μ1 => Ev d 5 16 L (v.toList ++ []) μ1 Q) := e_callS (a := [b0, b1]) (r := []) (by decide +kernel : decode (bOf 5) 13 = .ok (.invokestatic 28, 3)) (by decide +kernel) (by decide +kernel) (by decide +kernel) (by simp)
theorem x_5_16 : Ev d 5 16 (.int x :: L) st μ Q = Ev d 5 17 (.int x :: L) (.int x :: st) μ Q := e_iload_n (by decide +kernel : decode (bOf 5) 16 = .ok (.iload_n 0, 1)) rfl
theorem x_5_17 : Ev d 5 17 L (.int y :: .int x :: st) μ Q = if x = y then Ev d 5 20 L st μ Q else Ev d 5 24 L st μ Q := e_icmp_ne (by decide +kernel : decode (bOf 5) 17 = .ok (.if_icmp .ne 7, 3)) (by omega)
theorem x_5_20 : Ev d 5 20 L st μ Q = Ev d 5 21 L (.int (iI 1) :: st) μ Q := e_iconst (by decide +kernel : decode (bOf 5) 20 = .ok (.iconst 1, 1))
theorem x_5_21 : Ev d 5 21 L st μ Q = Ev d 5 25 L st μ Q := e_goto (by decide +kernel : decode (bOf 5) 21 = .ok (.goto 4, 3)) (by omega)
theorem x_5_24 : Ev d 5 24 L st μ Q = Ev d 5 25 L (.int (iI 0) :: st) μ Q := e_iconst (by decide +kernel : decode (bOf 5) 24 = .ok (.iconst 0, 1))
theorem x_5_25 (hx : isB x) : Ev d 5 25 L [.int x] μ Q = Q (some (.int x)) μ := e_zret (by decide +kernel : decode (bOf 5) 25 = .ok (.ireturn, 1)) (by decide +kernel) hx
theorem c_6 : Call (d + 1) 6 [a0, a1] μ Q = Ev d 6 0 [a0, a1, .null] [] μ Q := call_ev rfl
theorem x_6_0 : Ev d 6 0 (.int x :: L) st μ Q = Ev d 6 1 (.int x :: L) (.int x :: st) μ Q := e_iload_n (by decide +kernel : decode (bOf 6) 0 = .ok (.iload_n 0, 1)) rfl
theorem x_6_1 : Ev d 6 1 L [b0] μ Q = Call d 130 [b0] μ (fun v μ1 => Ev d 6 4 L (v.toList ++ []) μ1 Q) := e_callS (a := [b0]) (r := []) (by decide +kernel : decode (bOf 6) 1 = .ok (.invokestatic 32, 3)) (by decide +kernel) (by decide +kernel) (by decide +kernel) (by simp)
theorem x_6_4 (h : a1.category = 1) : Ev d 6 4 (a0 :: a1 :: a2 :: L) (.int x :: st) μ Q = Ev d 6 5 (a0 :: a1 :: .int x :: L) st μ Q := e_istore_n (by decide +kernel : decode (bOf 6) 4 = .ok (.istore_n 2, 1)) (by simp [stOK, h])
theorem x_6_5 : Ev d 6 5 (a0 :: a1 :: .int x :: L) st μ Q = Ev d 6 6 (a0 :: a1 :: .int x :: L) (.int x :: st) μ Q := e_iload_n (by decide +kernel : decode (bOf 6) 5 = .ok (.iload_n 2, 1)) rfl
theorem x_6_6 : Ev d 6 6 L st μ Q = Ev d 6 7 L (.int (iI 3) :: st) μ Q := e_iconst (by decide +kernel : decode (bOf 6) 6 = .ok (.iconst 3, 1))
theorem x_6_7 : Ev d 6 7 L (.int y :: .int x :: st) μ Q = if x = y then Ev d 6 10 L st μ Q else Ev d 6 12 L st μ Q := e_icmp_ne (by decide +kernel : decode (bOf 6) 7 = .ok (.if_icmp .ne 5, 3)) (by omega)
theorem x_6_10 : Ev d 6 10 (a0 :: .int x :: L) st μ Q = Ev d 6 11 (a0 :: .int x :: L) (.int x :: st) μ Q := e_iload_n (by decide +kernel : decode (bOf 6) 10 = .ok (.iload_n 1, 1)) rfl
theorem x_6_11 : Ev d 6 11 L [.int x] μ Q = Q (some (.int x)) μ := e_iret (by decide +kernel : decode (bOf 6) 11 = .ok (.ireturn, 1)) (by decide +kernel)
theorem x_6_12 : Ev d 6 12 (a0 :: a1 :: .int x :: L) st μ Q = Ev d 6 13 (a0 :: a1 :: .int x :: L) (.int x :: st) μ Q := e_iload_n (by decide +kernel : decode (bOf 6) 12 = .ok (.iload_n 2, 1)) rfl
theorem x_6_13 : Ev d 6 13 L st μ Q = Ev d 6 14 L (.int (iI 3) :: st) μ Q := e_iconst (by decide +kernel : decode (bOf 6) 13 = .ok (.iconst 3, 1))
theorem x_6_14 : Ev d 6 14 L (.int y :: .int x :: st) μ Q = if y < x then Ev d 6 17 L st μ Q else Ev d 6 21 L st μ Q := e_icmp_le (by decide +kernel : decode (bOf 6) 14 = .ok (.if_icmp .le 7, 3)) (by omega)
theorem x_6_17 : Ev d 6 17 L st μ Q = Ev d 6 18 L (.int (iI 1) :: st) μ Q := e_iconst (by decide +kernel : decode (bOf 6) 17 = .ok (.iconst 1, 1))
theorem x_6_18 : Ev d 6 18 L st μ Q = Ev d 6 22 L st μ Q := e_goto (by decide +kernel : decode (bOf 6) 18 = .ok (.goto 4, 3)) (by omega)
theorem x_6_21 : Ev d 6 21 L st μ Q = Ev d 6 22 L (.int (iI (-1)) :: st) μ Q := e_iconst (by decide +kernel : decode (bOf 6) 21 = .ok (.iconst (-1), 1))
theorem x_6_22 : Ev d 6 22 L [.int x] μ Q = Q (some (.int x)) μ := e_iret (by decide +kernel : decode (bOf 6) 22 = .ok (.ireturn, 1)) (by decide +kernel)
theorem c_7 : Call (d + 1) 7 [a0] μ Q = Ev d 7 0 [a0, .null] [] μ Q := call_ev rfl
theorem x_7_0 : Ev d 7 0 (.ref r :: L) st μ Q = Ev d 7 1 (.ref r :: L) (.ref r :: st) μ Q := e_aload_n (by decide +kernel : decode (bOf 7) 0 = .ok (.aload_n 0, 1)) rfl
theorem x_7_1 : Ev d 7 1 L (.ref r :: st) μ Q = Ev d 7 4 L st μ Q := e_obj (by decide +kernel : decode (bOf 7) 1 = .ok (.invokespecial 3, 3)) (by decide +kernel) (by decide +kernel)
theorem x_7_4 : Ev d 7 4 (.ref r :: L) st μ Q = Ev d 7 5 (.ref r :: L) (.ref r :: st) μ Q := e_aload_n (by decide +kernel : decode (bOf 7) 4 = .ok (.aload_n 0, 1)) rfl
theorem x_7_5 : Ev d 7 5 L st μ Q = Ev d 7 7 L (.int (iI 7) :: st) μ Q := e_bipush (by decide +kernel : decode (bOf 7) 5 = .ok (.bipush 7, 2)) (by decide +kernel)
theorem x_7_7 : Ev d 7 7 L (.int (iI 7) :: st) ((N, S, K), V, A, P) Q = Ev d 7 10 L (.ref N :: st) ((N + 1, S + 7, up1 K N (8, 7)), V, A, up1 P N (fun _ => none)) Q := e_newq 7 (by decide +kernel : decode (bOf 7) 7 = .ok (.anewarray 9, 3)) (by decide +kernel) (by decide +kernel) (by decide +kernel)
theorem x_7_10 (h : kd t r = 0) : Ev d 7 10 L (.ref q :: .ref r :: st) (t, V, A, P) Q = Ev d 7 13 L st (t, up1 V r (up1 (V r) 0 (.ref q)), A, P) Q := e_putf (by decide +kernel : decode (bOf 7) 10 = .ok (.putfield 11, 3)) (by decide +kernel) (by decide +kernel) rfl h
theorem x_7_13 : Ev d 7 13 (.ref r :: L) st μ Q = Ev d 7 14 (.ref r :: L) (.ref r :: st) μ Q := e_aload_n (by decide +kernel : decode (bOf 7) 13 = .ok (.aload_n 0, 1)) rfl
theorem x_7_14 : Ev d 7 14 L st μ Q = Ev d 7 16 L (.int (iI 6) :: st) μ Q := e_bipush (by decide +kernel : decode (bOf 7) 14 = .ok (.bipush 6, 2)) (by decide +kernel)
theorem x_7_16 : Ev d 7 16 L (.int (iI 6) :: st) ((N, S, K), V, A, P) Q = Ev d 7 18 L (.ref N :: st) ((N + 1, S + 6, up1 K N (6, 6)), V, up1 A N (fun _ => 0), P) Q := e_newi 6 (by decide +kernel : decode (bOf 7) 16 = .ok (.newarray .int, 2)) (by decide +kernel) (by decide +kernel)
theorem x_7_18 (h : kd t r = 0) : Ev d 7 18 L (.ref q :: .ref r :: st) (t, V, A, P) Q = Ev d 7 21 L st (t, up1 V r (up1 (V r) 1 (.ref q)), A, P) Q := e_putf (by decide +kernel : decode (bOf 7) 18 = .ok (.putfield 17, 3)) (by decide +kernel) (by decide +kernel) rfl h
theorem x_7_21 : Ev d 7 21 (.ref r :: L) st μ Q = Ev d 7 22 (.ref r :: L) (.ref r :: st) μ Q := e_aload_n (by decide +kernel : decode (bOf 7) 21 = .ok (.aload_n 0, 1)) rfl
theorem x_7_22 : Ev d 7 22 L st μ Q = Ev d 7 24 L (.int (iI 6) :: st) μ Q := e_bipush (by decide +kernel : decode (bOf 7) 22 = .ok (.bipush 6, 2)) (by decide +kernel)
theorem x_7_24 : Ev d 7 24 L (.int (iI 6) :: st) ((N, S, K), V, A, P) Q = Ev d 7 26 L (.ref N :: st) ((N + 1, S + 6, up1 K N (6, 6)), V, up1 A N (fun _ => 0), P) Q := e_newi 6 (by decide +kernel : decode (bOf 7) 24 = .ok (.newarray .int, 2)) (by decide +kernel) (by decide +kernel)
theorem x_7_26 (h : kd t r = 0) : Ev d 7 26 L (.ref q :: .ref r :: st) (t, V, A, P) Q = Ev d 7 29 L st (t, up1 V r (up1 (V r) 2 (.ref q)), A, P) Q := e_putf (by decide +kernel : decode (bOf 7) 26 = .ok (.putfield 21, 3)) (by decide +kernel) (by decide +kernel) rfl h
theorem x_7_29 : Ev d 7 29 (.ref r :: L) st μ Q = Ev d 7 30 (.ref r :: L) (.ref r :: st) μ Q := e_aload_n (by decide +kernel : decode (bOf 7) 29 = .ok (.aload_n 0, 1)) rfl
theorem x_7_30 : Ev d 7 30 L st μ Q = Ev d 7 32 L (.int (iI 6) :: st) μ Q := e_bipush (by decide +kernel : decode (bOf 7) 30 = .ok (.bipush 6, 2)) (by decide +kernel)
theorem x_7_32 : Ev d 7 32 L (.int (iI 6) :: st) ((N, S, K), V, A, P) Q = Ev d 7 34 L (.ref N :: st) ((N + 1, S + 6, up1 K N (6, 6)), V, up1 A N (fun _ => 0), P) Q := e_newi 6 (by decide +kernel : decode (bOf 7) 32 = .ok (.newarray .int, 2)) (by decide +kernel) (by decide +kernel)
theorem x_7_34 (h : kd t r = 0) : Ev d 7 34 L (.ref q :: .ref r :: st) (t, V, A, P) Q = Ev d 7 37 L st (t, up1 V r (up1 (V r) 3 (.ref q)), A, P) Q := e_putf (by decide +kernel : decode (bOf 7) 34 = .ok (.putfield 24, 3)) (by decide +kernel) (by decide +kernel) rfl h
theorem x_7_37 : Ev d 7 37 (.ref r :: L) st μ Q = Ev d 7 38 (.ref r :: L) (.ref r :: st) μ Q := e_aload_n (by decide +kernel : decode (bOf 7) 37 = .ok (.aload_n 0, 1)) rfl
theorem x_7_38 : Ev d 7 38 L st μ Q = Ev d 7 39 L (.int (iI 0) :: st) μ Q := e_iconst (by decide +kernel : decode (bOf 7) 38 = .ok (.iconst 0, 1))
theorem x_7_39 (h : kd t r = 0) : Ev d 7 39 L (.int x :: .ref r :: st) (t, V, A, P) Q = Ev d 7 42 L st (t, up1 V r (up1 (V r) 4 (.int x)), A, P) Q := e_putf (by decide +kernel : decode (bOf 7) 39 = .ok (.putfield 27, 3)) (by decide +kernel) (by decide +kernel) rfl h
theorem x_7_42 : Ev d 7 42 (.ref r :: L) st μ Q = Ev d 7 43 (.ref r :: L) (.ref r :: st) μ Q := e_aload_n (by decide +kernel : decode (bOf 7) 42 = .ok (.aload_n 0, 1)) rfl
theorem x_7_43 : Ev d 7 43 L st μ Q = Ev d 7 44 L (.int (iI 0) :: st) μ Q := e_iconst (by decide +kernel : decode (bOf 7) 43 = .ok (.iconst 0, 1))
theorem x_7_44 (h : kd t r = 0) : Ev d 7 44 L (.int x :: .ref r :: st) (t, V, A, P) Q = Ev d 7 47 L st (t, up1 V r (up1 (V r) 5 (.int x)), A, P) Q := e_putf (by decide +kernel : decode (bOf 7) 44 = .ok (.putfield 31, 3)) (by decide +kernel) (by decide +kernel) rfl h
theorem x_7_47 : Ev d 7 47 L st μ Q = Ev d 7 48 L (.int (iI 0) :: st) μ Q := e_iconst (by decide +kernel : decode (bOf 7) 47 = .ok (.iconst 0, 1))
theorem x_7_48 (h : a0.category = 1) : Ev d 7 48 (a0 :: a1 :: L) (.int x :: st) μ Q = Ev d 7 49 (a0 :: .int x :: L) st μ Q := e_istore_n (by decide +kernel : decode (bOf 7) 48 = .ok (.istore_n 1, 1)) (by simp [stOK, h])
theorem x_7_49 : Ev d 7 49 (a0 :: .int x :: L) st μ Q = Ev d 7 50 (a0 :: .int x :: L) (.int x :: st) μ Q := e_iload_n (by decide +kernel : decode (bOf 7) 49 = .ok (.iload_n 1, 1)) rfl
theorem x_7_50 : Ev d 7 50 L st μ Q = Ev d 7 52 L (.int (iI 6) :: st) μ Q := e_bipush (by decide +kernel : decode (bOf 7) 50 = .ok (.bipush 6, 2)) (by decide +kernel)
theorem x_7_52 : Ev d 7 52 L (.int y :: .int x :: st) μ Q = if y < x then Ev d 7 74 L st μ Q else Ev d 7 55 L st μ Q := e_icmp_gt (by decide +kernel : decode (bOf 7) 52 = .ok (.if_icmp .gt 22, 3)) (by omega)
theorem x_7_55 : Ev d 7 55 (.ref r :: L) st μ Q = Ev d 7 56 (.ref r :: L) (.ref r :: st) μ Q := e_aload_n (by decide +kernel : decode (bOf 7) 55 = .ok (.aload_n 0, 1)) rfl
theorem x_7_56 (h : kd t r = 0) : Ev d 7 56 L (.ref r :: st) (t, V, A, P) Q = Ev d 7 59 L (V r 0 :: st) (t, V, A, P) Q := e_getf (by decide +kernel : decode (bOf 7) 56 = .ok (.getfield 11, 3)) (by decide +kernel) (by decide +kernel) h
theorem x_7_59 : Ev d 7 59 (a0 :: .int x :: L) st μ Q = Ev d 7 60 (a0 :: .int x :: L) (.int x :: st) μ Q := e_iload_n (by decide +kernel : decode (bOf 7) 59 = .ok (.iload_n 1, 1)) rfl
theorem x_7_60 : Ev d 7 60 L st ((N, S, K), V, A, P) Q = Ev d 7 63 L (.ref N :: st) ((N + 1, S + 5, up1 K N (2, 5)), up1 V N (rw' [.int 0, .int 0, .int 0, .int 0, .int 0]), A, P) Q := e_new 5 [.int 0, .int 0, .int 0, .int 0, .int 0] (by decide +kernel : decode (bOf 7) 60 = .ok (.new 9, 3)) (by decide +kernel) (by decide +kernel) (by decide +kernel) (by decide +kernel)
theorem x_7_63 : Ev d 7 63 L (.ref r :: st) μ Q = Ev d 7 64 L (.ref r :: .ref r :: st) μ Q := e_dup_a (by decide +kernel : decode (bOf 7) 63 = .ok (.dup, 1))
theorem x_7_64 : Ev d 7 64 L [.ref r, s0, s1, s2] μ Q = Call d 23 [.ref r] μ (fun v μ1 => Ev d 7 67 L (v.toList ++ [s0, s1, s2]) μ1 Q) := e_callI (a := []) (r := [s0, s1, s2]) (by decide +kernel : decode (bOf 7) 64 = .ok (.invokespecial 34, 3)) (by decide +kernel) (by decide +kernel) (by decide +kernel) (by decide +kernel) (by decide +kernel) (by simp)
theorem x_7_67 (h : kd t r = 8) (hv : kd t q = 2) (hi : inB x (ln t r) = true) : Ev d 7 67 L (.ref q :: .int x :: .ref r :: st) (t, V, A, P) Q = Ev d 7 68 L st (t, V, A, up1 P r (up1 (P r) x.toNatClampNeg (some q))) Q := e_aast8 (by decide +kernel : decode (bOf 7) 67 = .ok (.aastore, 1)) h hv hi
theorem x_7_68 (h : a0.category = 1) : Ev d 7 68 (a0 :: .int x :: L) st μ Q = Ev d 7 71 (a0 :: .int (x + (iI 1)) :: L) st μ Q := e_iinc (by decide +kernel : decode (bOf 7) 68 = .ok (.iinc 1 1, 3)) rfl (by simp [stOK, h])
theorem x_7_71 : Ev d 7 71 L st μ Q = Ev d 7 49 L st μ Q := e_goto (by decide +kernel : decode (bOf 7) 71 = .ok (.goto (-22), 3)) (by omega)
theorem x_7_74 : Ev d 7 74 L [] μ Q = Q none μ := e_ret (by decide +kernel : decode (bOf 7) 74 = .ok (.return_, 1)) (by decide +kernel)
theorem c_8 : Call (d + 1) 8 [a0, a1, a2] μ Q = Ev d 8 0 [a0, a1, a2, .null, .null] [] μ Q := call_ev rfl
theorem x_8_0 : Ev d 8 0 (a0 :: a1 :: .int x :: L) st μ Q = Ev d 8 1 (a0 :: a1 :: .int x :: L) (.int x :: st) μ Q := e_iload_n (by decide +kernel : decode (bOf 8) 0 = .ok (.iload_n 2, 1)) rfl
theorem x_8_1 : Ev d 8 1 L st μ Q = Ev d 8 2 L (.int (iI 1) :: st) μ Q := e_iconst (by decide +kernel : decode (bOf 8) 1 = .ok (.iconst 1, 1))
theorem x_8_2 : Ev d 8 2 L (.int y :: .int x :: st) μ Q = if x < y then Ev d 8 19 L st μ Q else Ev d 8 5 L st μ Q := e_icmp_lt (by decide +kernel : decode (bOf 8) 2 = .ok (.if_icmp .lt 17, 3)) (by omega)
theorem x_8_5 : Ev d 8 5 (a0 :: a1 :: .int x :: L) st μ Q = Ev d 8 6 (a0 :: a1 :: .int x :: L) (.int x :: st) μ Q := e_iload_n (by decide +kernel : decode (bOf 8) 5 = .ok (.iload_n 2, 1)) rfl
theorem x_8_6 : Ev d 8 6 L st μ Q = Ev d 8 8 L (.int (iI 6) :: st) μ Q := e_bipush (by decide +kernel : decode (bOf 8) 6 = .ok (.bipush 6, 2)) (by decide +kernel)
theorem x_8_8 : Ev d 8 8 L (.int y :: .int x :: st) μ Q = if y < x then Ev d 8 19 L st μ Q else Ev d 8 11 L st μ Q := e_icmp_gt (by decide +kernel : decode (bOf 8) 8 = .ok (.if_icmp .gt 11, 3)) (by omega)
theorem x_8_11 : Ev d 8 11 (a0 :: a1 :: .int x :: L) st μ Q = Ev d 8 12 (a0 :: a1 :: .int x :: L) (.int x :: st) μ Q := e_iload_n (by decide +kernel : decode (bOf 8) 11 = .ok (.iload_n 2, 1)) rfl
theorem x_8_12 : Ev d 8 12 (a0 :: .ref r :: L) st μ Q = Ev d 8 13 (a0 :: .ref r :: L) (.ref r :: st) μ Q := e_aload_n (by decide +kernel : decode (bOf 8) 12 = .ok (.aload_n 1, 1)) rfl
theorem x_8_13 (h : kd t r = 3) : Ev d 8 13 L (.ref r :: st) (t, V, A, P) Q = Ev d 8 16 L (V r 3 :: st) (t, V, A, P) Q := e_getf (by decide +kernel : decode (bOf 8) 13 = .ok (.getfield 35, 3)) (by decide +kernel) (by decide +kernel) h
theorem x_8_16 : Ev d 8 16 L (.int y :: .int x :: st) μ Q = if y < x then Ev d 8 19 L st μ Q else Ev d 8 20 L st μ Q := e_icmp_le (by decide +kernel : decode (bOf 8) 16 = .ok (.if_icmp .le 4, 3)) (by omega)
theorem x_8_19 : Ev d 8 19 L [] μ Q = Q none μ := e_ret (by decide +kernel : decode (bOf 8) 19 = .ok (.return_, 1)) (by decide +kernel)
theorem x_8_20 : Ev d 8 20 (a0 :: .ref r :: L) st μ Q = Ev d 8 21 (a0 :: .ref r :: L) (.ref r :: st) μ Q := e_aload_n (by decide +kernel : decode (bOf 8) 20 = .ok (.aload_n 1, 1)) rfl
theorem x_8_21 (h : kd t r = 3) : Ev d 8 21 L (.ref r :: st) (t, V, A, P) Q = Ev d 8 24 L (V r 3 :: st) (t, V, A, P) Q := e_getf (by decide +kernel : decode (bOf 8) 21 = .ok (.getfield 35, 3)) (by decide +kernel) (by decide +kernel) h
theorem x_8_24 : Ev d 8 24 (a0 :: a1 :: .int x :: L) st μ Q = Ev d 8 25 (a0 :: a1 :: .int x :: L) (.int x :: st) μ Q := e_iload_n (by decide +kernel : decode (bOf 8) 24 = .ok (.iload_n 2, 1)) rfl
theorem x_8_25 : Ev d 8 25 L (.int y :: .int x :: st) μ Q = Ev d 8 26 L (.int (x - y) :: st) μ Q := e_isub (by decide +kernel : decode (bOf 8) 25 = .ok (.isub, 1))
theorem x_8_26 (h : a2.category = 1) : Ev d 8 26 (a0 :: a1 :: a2 :: a3 :: L) (.int x :: st) μ Q = Ev d 8 27 (a0 :: a1 :: a2 :: .int x :: L) st μ Q := e_istore_n (by decide +kernel : decode (bOf 8) 26 = .ok (.istore_n 3, 1)) (by simp [stOK, h])
theorem x_8_27 : Ev d 8 27 (.ref r :: L) st μ Q = Ev d 8 28 (.ref r :: L) (.ref r :: st) μ Q := e_aload_n (by decide +kernel : decode (bOf 8) 27 = .ok (.aload_n 0, 1)) rfl
theorem x_8_28 : Ev d 8 28 (a0 :: a1 :: .int x :: L) st μ Q = Ev d 8 29 (a0 :: a1 :: .int x :: L) (.int x :: st) μ Q := e_iload_n (by decide +kernel : decode (bOf 8) 28 = .ok (.iload_n 2, 1)) rfl
theorem x_8_29 (h : kd t r = 0) : Ev d 8 29 L (.int x :: .ref r :: st) (t, V, A, P) Q = Ev d 8 32 L st (t, up1 V r (up1 (V r) 4 (.int x)), A, P) Q := e_putf (by decide +kernel : decode (bOf 8) 29 = .ok (.putfield 27, 3)) (by decide +kernel) (by decide +kernel) rfl h
theorem x_8_32 : Ev d 8 32 (.ref r :: L) st μ Q = Ev d 8 33 (.ref r :: L) (.ref r :: st) μ Q := e_aload_n (by decide +kernel : decode (bOf 8) 32 = .ok (.aload_n 0, 1)) rfl
theorem x_8_33 : Ev d 8 33 L st μ Q = Ev d 8 36 L (.int (iI 1000) :: st) μ Q := e_sipush (by decide +kernel : decode (bOf 8) 33 = .ok (.sipush 1000, 3)) (by decide +kernel)
theorem x_8_36 (h : kd t r = 0) : Ev d 8 36 L (.int x :: .ref r :: st) (t, V, A, P) Q = Ev d 8 39 L st (t, up1 V r (up1 (V r) 5 (.int x)), A, P) Q := e_putf (by decide +kernel : decode (bOf 8) 36 = .ok (.putfield 31, 3)) (by decide +kernel) (by decide +kernel) rfl h
theorem x_8_39 : Ev d 8 39 (.ref r :: L) st μ Q = Ev d 8 40 (.ref r :: L) (.ref r :: st) μ Q := e_aload_n (by decide +kernel : decode (bOf 8) 39 = .ok (.aload_n 0, 1)) rfl
theorem x_8_40 : Ev d 8 40 (a0 :: .ref r :: L) st μ Q = Ev d 8 41 (a0 :: .ref r :: L) (.ref r :: st) μ Q := e_aload_n (by decide +kernel : decode (bOf 8) 40 = .ok (.aload_n 1, 1)) rfl
theorem x_8_41 : Ev d 8 41 (a0 :: a1 :: a2 :: .int x :: L) st μ Q = Ev d 8 42 (a0 :: a1 :: a2 :: .int x :: L) (.int x :: st) μ Q := e_iload_n (by decide +kernel : decode (bOf 8) 41 = .ok (.iload_n 3, 1)) rfl
theorem x_8_42 (h : kd t r = 0) : Ev d 8 42 L [b1, b0, .ref r] (t, V, A, P) Q = Call d 9 [.ref r, b0, b1] (t, V, A, P) (fun v μ1 => Ev d 8 45 L (v.toList ++ []) μ1 Q) := e_callV (a := [b0, b1]) (r := []) (by decide +kernel : decode (bOf 8) 42 = .ok (.invokevirtual 40, 3)) (by decide +kernel) (by decide +kernel) (by decide +kernel) (by decide +kernel) (by simp) (by decide +kernel) h
theorem x_8_45 : Ev d 8 45 L st μ Q = Ev d 8 46 L (.int (iI 0) :: st) μ Q := e_iconst (by decide +kernel : decode (bOf 8) 45 = .ok (.iconst 0, 1))
theorem x_8_46 (h : a3.category = 1) : Ev d 8 46 (a0 :: a1 :: a2 :: a3 :: a4 :: L) (.int x :: st) μ Q = Ev d 8 48 (a0 :: a1 :: a2 :: a3 :: .int x :: L) st μ Q := e_istore (by decide +kernel : decode (bOf 8) 46 = .ok (.istore 4, 2)) (by simp [stOK, h])
theorem x_8_48 : Ev d 8 48 (a0 :: a1 :: a2 :: a3 :: .int x :: L) st μ Q = Ev d 8 50 (a0 :: a1 :: a2 :: a3 :: .int x :: L) (.int x :: st) μ Q := e_iload (by decide +kernel : decode (bOf 8) 48 = .ok (.iload 4, 2)) rfl
theorem x_8_50 : Ev d 8 50 (a0 :: a1 :: .int x :: L) st μ Q = Ev d 8 51 (a0 :: a1 :: .int x :: L) (.int x :: st) μ Q := e_iload_n (by decide +kernel : decode (bOf 8) 50 = .ok (.iload_n 2, 1)) rfl
theorem x_8_51 : Ev d 8 51 L (.int y :: .int x :: st) μ Q = if x < y then Ev d 8 54 L st μ Q else Ev d 8 85 L st μ Q := e_icmp_ge (by decide +kernel : decode (bOf 8) 51 = .ok (.if_icmp .ge 34, 3)) (by omega)
theorem x_8_54 : Ev d 8 54 (a0 :: a1 :: a2 :: .int x :: L) st μ Q = Ev d 8 55 (a0 :: a1 :: a2 :: .int x :: L) (.int x :: st) μ Q := e_iload_n (by decide +kernel : decode (bOf 8) 54 = .ok (.iload_n 3, 1)) rfl
theorem x_8_55 : Ev d 8 55 (a0 :: a1 :: a2 :: a3 :: .int x :: L) st μ Q = Ev d 8 57 (a0 :: a1 :: a2 :: a3 :: .int x :: L) (.int x :: st) μ Q := e_iload (by decide +kernel : decode (bOf 8) 55 = .ok (.iload 4, 2)) rfl
theorem x_8_57 : Ev d 8 57 L (.int y :: .int x :: st) μ Q = Ev d 8 58 L (.int (x + y) :: st) μ Q := e_iadd (by decide +kernel : decode (bOf 8) 57 = .ok (.iadd, 1))
theorem x_8_58 : Ev d 8 58 L st μ Q = Ev d 8 60 L (.int (iI 32) :: st) μ Q := e_bipush (by decide +kernel : decode (bOf 8) 58 = .ok (.bipush 32, 2)) (by decide +kernel)
theorem x_8_60 : Ev d 8 60 L (.int y :: .int x :: st) μ Q = if x < y then Ev d 8 63 L st μ Q else Ev d 8 85 L st μ Q := e_icmp_ge (by decide +kernel : decode (bOf 8) 60 = .ok (.if_icmp .ge 25, 3)) (by omega)
theorem x_8_63 : Ev d 8 63 (.ref r :: L) st μ Q = Ev d 8 64 (.ref r :: L) (.ref r :: st) μ Q := e_aload_n (by decide +kernel : decode (bOf 8) 63 = .ok (.aload_n 0, 1)) rfl
theorem x_8_64 (h : kd t r = 0) : Ev d 8 64 L (.ref r :: st) (t, V, A, P) Q = Ev d 8 67 L (V r 1 :: st) (t, V, A, P) Q := e_getf (by decide +kernel : decode (bOf 8) 64 = .ok (.getfield 17, 3)) (by decide +kernel) (by decide +kernel) h
theorem x_8_67 : Ev d 8 67 (a0 :: a1 :: a2 :: a3 :: .int x :: L) st μ Q = Ev d 8 69 (a0 :: a1 :: a2 :: a3 :: .int x :: L) (.int x :: st) μ Q := e_iload (by decide +kernel : decode (bOf 8) 67 = .ok (.iload 4, 2)) rfl
theorem x_8_69 : Ev d 8 69 (a0 :: .ref r :: L) st μ Q = Ev d 8 70 (a0 :: .ref r :: L) (.ref r :: st) μ Q := e_aload_n (by decide +kernel : decode (bOf 8) 69 = .ok (.aload_n 1, 1)) rfl
theorem x_8_70 (h : kd t r = 3) : Ev d 8 70 L (.ref r :: st) (t, V, A, P) Q = Ev d 8 73 L (V r 0 :: st) (t, V, A, P) Q := e_getf (by decide +kernel : decode (bOf 8) 70 = .ok (.getfield 44, 3)) (by decide +kernel) (by decide +kernel) h
theorem x_8_73 : Ev d 8 73 (a0 :: a1 :: a2 :: .int x :: L) st μ Q = Ev d 8 74 (a0 :: a1 :: a2 :: .int x :: L) (.int x :: st) μ Q := e_iload_n (by decide +kernel : decode (bOf 8) 73 = .ok (.iload_n 3, 1)) rfl
theorem x_8_74 : Ev d 8 74 (a0 :: a1 :: a2 :: a3 :: .int x :: L) st μ Q = Ev d 8 76 (a0 :: a1 :: a2 :: a3 :: .int x :: L) (.int x :: st) μ Q := e_iload (by decide +kernel : decode (bOf 8) 74 = .ok (.iload 4, 2)) rfl
theorem x_8_76 : Ev d 8 76 L (.int y :: .int x :: st) μ Q = Ev d 8 77 L (.int (x + y) :: st) μ Q := e_iadd (by decide +kernel : decode (bOf 8) 76 = .ok (.iadd, 1))
theorem x_8_77 (h : kd t r = 6) (hi : inB x (ln t r) = true) : Ev d 8 77 L (.int x :: .ref r :: st) (t, V, A, P) Q = Ev d 8 78 L (.int (A r x.toNatClampNeg) :: st) (t, V, A, P) Q := e_iald (by decide +kernel : decode (bOf 8) 77 = .ok (.iaload, 1)) h hi
theorem x_8_78 (h : kd t r = 6) (hi : inB x (ln t r) = true) : Ev d 8 78 L (.int y :: .int x :: .ref r :: st) (t, V, A, P) Q = Ev d 8 79 L st (t, V, up1 A r (upd (A r) x.toNatClampNeg y), P) Q := e_iast (by decide +kernel : decode (bOf 8) 78 = .ok (.iastore, 1)) h hi
theorem x_8_79 (h : a3.category = 1) : Ev d 8 79 (a0 :: a1 :: a2 :: a3 :: .int x :: L) st μ Q = Ev d 8 82 (a0 :: a1 :: a2 :: a3 :: .int (x + (iI 1)) :: L) st μ Q := e_iinc (by decide +kernel : decode (bOf 8) 79 = .ok (.iinc 4 1, 3)) rfl (by simp [stOK, h])
theorem x_8_82 : Ev d 8 82 L st μ Q = Ev d 8 48 L st μ Q := e_goto (by decide +kernel : decode (bOf 8) 82 = .ok (.goto (-34), 3)) (by omega)
theorem x_8_85 : Ev d 8 85 (.ref r :: L) st μ Q = Ev d 8 86 (.ref r :: L) (.ref r :: st) μ Q := e_aload_n (by decide +kernel : decode (bOf 8) 85 = .ok (.aload_n 0, 1)) rfl
theorem x_8_86 : Ev d 8 86 L st μ Q = Ev d 8 87 L (.int (iI 0) :: st) μ Q := e_iconst (by decide +kernel : decode (bOf 8) 86 = .ok (.iconst 0, 1))
theorem x_8_87 : Ev d 8 87 L st μ Q = Ev d 8 88 L (.int (iI 0) :: st) μ Q := e_iconst (by decide +kernel : decode (bOf 8) 87 = .ok (.iconst 0, 1))
theorem x_8_88 : Ev d 8 88 L [b2, b1, b0] μ Q = Call d 11 [b0, b1, b2] μ (fun v μ1 => Ev d 8 91 L (v.toList ++ []) μ1 Q) := e_callS (a := [b0, b1, b2]) (r := []) (by decide +kernel : decode (bOf 8) 88 = .ok (.invokestatic 45, 3)) (by decide +kernel) (by decide +kernel) (by decide +kernel) (by simp)
theorem x_8_91 : Ev d 8 91 L [] μ Q = Q none μ := e_ret (by decide +kernel : decode (bOf 8) 91 = .ok (.return_, 1)) (by decide +kernel)
theorem c_9 : Call (d + 1) 9 [a0, a1, a2] μ Q = Ev d 9 0 [a0, a1, a2, .null, .null] [] μ Q := call_ev rfl
theorem x_9_0 : Ev d 9 0 (.ref r :: L) st μ Q = Ev d 9 1 (.ref r :: L) (.ref r :: st) μ Q := e_aload_n (by decide +kernel : decode (bOf 9) 0 = .ok (.aload_n 0, 1)) rfl
theorem x_9_1 (h : kd t r = 0) : Ev d 9 1 L (.ref r :: st) (t, V, A, P) Q = Ev d 9 4 L (V r 0 :: st) (t, V, A, P) Q := e_getf (by decide +kernel : decode (bOf 9) 1 = .ok (.getfield 11, 3)) (by decide +kernel) (by decide +kernel) h
theorem x_9_4 : Ev d 9 4 L st μ Q = Ev d 9 5 L (.int (iI 0) :: st) μ Q := e_iconst (by decide +kernel : decode (bOf 9) 4 = .ok (.iconst 0, 1))
theorem x_9_5 (h : kd t r = 8) (hi : inB x (ln t r) = true) : Ev d 9 5 L (.int x :: .ref r :: st) (t, V, A, P) Q = Ev d 9 6 L (va_rf (P r x.toNatClampNeg) :: st) (t, V, A, P) Q := e_aald 8 (by omega) (by decide +kernel : decode (bOf 9) 5 = .ok (.aaload, 1)) h hi
theorem x_9_6 (h : a2.category = 1) : Ev d 9 6 (a0 :: a1 :: a2 :: a3 :: L) (.ref r :: st) μ Q = Ev d 9 7 (a0 :: a1 :: a2 :: .ref r :: L) st μ Q := e_astore_n (by decide +kernel : decode (bOf 9) 6 = .ok (.astore_n 3, 1)) (by simp [stOK, h])
theorem x_9_7 : Ev d 9 7 (a0 :: a1 :: a2 :: .ref r :: L) st μ Q = Ev d 9 8 (a0 :: a1 :: a2 :: .ref r :: L) (.ref r :: st) μ Q := e_aload_n (by decide +kernel : decode (bOf 9) 7 = .ok (.aload_n 3, 1)) rfl
theorem x_9_8 : Ev d 9 8 L (.ref r :: st) μ Q = Ev d 9 12 L st μ Q := e_ifnonnull (by decide +kernel : decode (bOf 9) 8 = .ok (.ifnonnull 4, 3)) (by omega)
theorem x_9_11 : Ev d 9 11 L [] μ Q = Q none μ := e_ret (by decide +kernel : decode (bOf 9) 11 = .ok (.return_, 1)) (by decide +kernel)
theorem x_9_12 : Ev d 9 12 (a0 :: a1 :: a2 :: .ref r :: L) st μ Q = Ev d 9 13 (a0 :: a1 :: a2 :: .ref r :: L) (.ref r :: st) μ Q := e_aload_n (by decide +kernel : decode (bOf 9) 12 = .ok (.aload_n 3, 1)) rfl
theorem x_9_13 : Ev d 9 13 L st μ Q = Ev d 9 14 L (.int (iI (-1)) :: st) μ Q := e_iconst (by decide +kernel : decode (bOf 9) 13 = .ok (.iconst (-1), 1))
theorem x_9_14 (h : kd t r = 2) : Ev d 9 14 L [b0, .ref r] (t, V, A, P) Q = Call d 24 [.ref r, b0] (t, V, A, P) (fun v μ1 => Ev d 9 17 L (v.toList ++ []) μ1 Q) := e_callV (a := [b0]) (r := []) (by decide +kernel : decode (bOf 9) 14 = .ok (.invokevirtual 49, 3)) (by decide +kernel) (by decide +kernel) (by decide +kernel) (by decide +kernel) (by simp) (by decide +kernel) h
theorem x_9_17 : Ev d 9 17 L st μ Q = Ev d 9 18 L (.int (iI 0) :: st) μ Q := e_iconst (by decide +kernel : decode (bOf 9) 17 = .ok (.iconst 0, 1))
theorem x_9_18 (h : a3.category = 1) : Ev d 9 18 (a0 :: a1 :: a2 :: a3 :: a4 :: L) (.int x :: st) μ Q = Ev d 9 20 (a0 :: a1 :: a2 :: a3 :: .int x :: L) st μ Q := e_istore (by decide +kernel : decode (bOf 9) 18 = .ok (.istore 4, 2)) (by simp [stOK, h])
theorem x_9_20 : Ev d 9 20 (a0 :: a1 :: a2 :: a3 :: .int x :: L) st μ Q = Ev d 9 22 (a0 :: a1 :: a2 :: a3 :: .int x :: L) (.int x :: st) μ Q := e_iload (by decide +kernel : decode (bOf 9) 20 = .ok (.iload 4, 2)) rfl
theorem x_9_22 : Ev d 9 22 (a0 :: a1 :: .int x :: L) st μ Q = Ev d 9 23 (a0 :: a1 :: .int x :: L) (.int x :: st) μ Q := e_iload_n (by decide +kernel : decode (bOf 9) 22 = .ok (.iload_n 2, 1)) rfl
theorem x_9_23 : Ev d 9 23 L (.int y :: .int x :: st) μ Q = if x < y then Ev d 9 26 L st μ Q else Ev d 9 51 L st μ Q := e_icmp_ge (by decide +kernel : decode (bOf 9) 23 = .ok (.if_icmp .ge 28, 3)) (by omega)
theorem x_9_26 : Ev d 9 26 (a0 :: a1 :: a2 :: a3 :: .int x :: L) st μ Q = Ev d 9 28 (a0 :: a1 :: a2 :: a3 :: .int x :: L) (.int x :: st) μ Q := e_iload (by decide +kernel : decode (bOf 9) 26 = .ok (.iload 4, 2)) rfl
theorem x_9_28 : Ev d 9 28 L st μ Q = Ev d 9 30 L (.int (iI 32) :: st) μ Q := e_bipush (by decide +kernel : decode (bOf 9) 28 = .ok (.bipush 32, 2)) (by decide +kernel)
theorem x_9_30 : Ev d 9 30 L (.int y :: .int x :: st) μ Q = if x < y then Ev d 9 33 L st μ Q else Ev d 9 51 L st μ Q := e_icmp_ge (by decide +kernel : decode (bOf 9) 30 = .ok (.if_icmp .ge 21, 3)) (by omega)
theorem x_9_33 : Ev d 9 33 (a0 :: a1 :: a2 :: .ref r :: L) st μ Q = Ev d 9 34 (a0 :: a1 :: a2 :: .ref r :: L) (.ref r :: st) μ Q := e_aload_n (by decide +kernel : decode (bOf 9) 33 = .ok (.aload_n 3, 1)) rfl
theorem x_9_34 : Ev d 9 34 (a0 :: .ref r :: L) st μ Q = Ev d 9 35 (a0 :: .ref r :: L) (.ref r :: st) μ Q := e_aload_n (by decide +kernel : decode (bOf 9) 34 = .ok (.aload_n 1, 1)) rfl
theorem x_9_35 (h : kd t r = 3) : Ev d 9 35 L (.ref r :: st) (t, V, A, P) Q = Ev d 9 38 L (V r 1 :: st) (t, V, A, P) Q := e_getf (by decide +kernel : decode (bOf 9) 35 = .ok (.getfield 53, 3)) (by decide +kernel) (by decide +kernel) h
theorem x_9_38 : Ev d 9 38 (a0 :: a1 :: a2 :: a3 :: .int x :: L) st μ Q = Ev d 9 40 (a0 :: a1 :: a2 :: a3 :: .int x :: L) (.int x :: st) μ Q := e_iload (by decide +kernel : decode (bOf 9) 38 = .ok (.iload 4, 2)) rfl
theorem x_9_40 (h : kd t r = 6) (hi : inB x (ln t r) = true) : Ev d 9 40 L (.int x :: .ref r :: st) (t, V, A, P) Q = Ev d 9 41 L (.int (A r x.toNatClampNeg) :: st) (t, V, A, P) Q := e_iald (by decide +kernel : decode (bOf 9) 40 = .ok (.iaload, 1)) h hi
theorem x_9_41 (h : kd t r = 2) : Ev d 9 41 L [b0, .ref r] (t, V, A, P) Q = Call d 27 [.ref r, b0] (t, V, A, P) (fun v μ1 => Ev d 9 44 L (v.toList ++ []) μ1 Q) := e_callV (a := [b0]) (r := []) (by decide +kernel : decode (bOf 9) 41 = .ok (.invokevirtual 56, 3)) (by decide +kernel) (by decide +kernel) (by decide +kernel) (by decide +kernel) (by simp) (by decide +kernel) h
theorem x_9_44 : Ev d 9 44 L (.int x :: st) μ Q = Ev d 9 45 L st μ Q := e_pop (by decide +kernel : decode (bOf 9) 44 = .ok (.pop, 1))
theorem x_9_45 (h : a3.category = 1) : Ev d 9 45 (a0 :: a1 :: a2 :: a3 :: .int x :: L) st μ Q = Ev d 9 48 (a0 :: a1 :: a2 :: a3 :: .int (x + (iI 1)) :: L) st μ Q := e_iinc (by decide +kernel : decode (bOf 9) 45 = .ok (.iinc 4 1, 3)) rfl (by simp [stOK, h])
theorem x_9_48 : Ev d 9 48 L st μ Q = Ev d 9 20 L st μ Q := e_goto (by decide +kernel : decode (bOf 9) 48 = .ok (.goto (-28), 3)) (by omega)
theorem x_9_51 : Ev d 9 51 L [] μ Q = Q none μ := e_ret (by decide +kernel : decode (bOf 9) 51 = .ok (.return_, 1)) (by decide +kernel)
theorem c_10 : Call (d + 1) 10 [a0, a1] μ Q = Ev d 10 0 [a0, a1] [] μ Q := call_ev rfl
theorem x_10_0 : Ev d 10 0 (a0 :: .int x :: L) st μ Q = Ev d 10 1 (a0 :: .int x :: L) (.int x :: st) μ Q := e_iload_n (by decide +kernel : decode (bOf 10) 0 = .ok (.iload_n 1, 1)) rfl
theorem x_10_1 : Ev d 10 1 L (.int x :: st) μ Q = if x < iI 0 then Ev d 10 27 L st μ Q else Ev d 10 4 L st μ Q := e_if_lt (by decide +kernel : decode (bOf 10) 1 = .ok (.ifCond .lt 26, 3)) (by omega)
theorem x_10_4 : Ev d 10 4 (a0 :: .int x :: L) st μ Q = Ev d 10 5 (a0 :: .int x :: L) (.int x :: st) μ Q := e_iload_n (by decide +kernel : decode (bOf 10) 4 = .ok (.iload_n 1, 1)) rfl
theorem x_10_5 : Ev d 10 5 (.ref r :: L) st μ Q = Ev d 10 6 (.ref r :: L) (.ref r :: st) μ Q := e_aload_n (by decide +kernel : decode (bOf 10) 5 = .ok (.aload_n 0, 1)) rfl
theorem x_10_6 (h : kd t r = 0) : Ev d 10 6 L (.ref r :: st) (t, V, A, P) Q = Ev d 10 9 L (V r 4 :: st) (t, V, A, P) Q := e_getf (by decide +kernel : decode (bOf 10) 6 = .ok (.getfield 27, 3)) (by decide +kernel) (by decide +kernel) h
theorem x_10_9 : Ev d 10 9 L (.int y :: .int x :: st) μ Q = if x < y then Ev d 10 12 L st μ Q else Ev d 10 27 L st μ Q := e_icmp_ge (by decide +kernel : decode (bOf 10) 9 = .ok (.if_icmp .ge 18, 3)) (by omega)
theorem x_10_12 : Ev d 10 12 (a0 :: .int x :: L) st μ Q = Ev d 10 13 (a0 :: .int x :: L) (.int x :: st) μ Q := e_iload_n (by decide +kernel : decode (bOf 10) 12 = .ok (.iload_n 1, 1)) rfl
theorem x_10_13 : Ev d 10 13 L st μ Q = Ev d 10 15 L (.int (iI 6) :: st) μ Q := e_bipush (by decide +kernel : decode (bOf 10) 13 = .ok (.bipush 6, 2)) (by decide +kernel)
theorem x_10_15 : Ev d 10 15 L (.int y :: .int x :: st) μ Q = if x < y then Ev d 10 18 L st μ Q else Ev d 10 27 L st μ Q := e_icmp_ge (by decide +kernel : decode (bOf 10) 15 = .ok (.if_icmp .ge 12, 3)) (by omega)
theorem x_10_18 : Ev d 10 18 (.ref r :: L) st μ Q = Ev d 10 19 (.ref r :: L) (.ref r :: st) μ Q := e_aload_n (by decide +kernel : decode (bOf 10) 18 = .ok (.aload_n 0, 1)) rfl
theorem x_10_19 (h : kd t r = 0) : Ev d 10 19 L (.ref r :: st) (t, V, A, P) Q = Ev d 10 22 L (V r 3 :: st) (t, V, A, P) Q := e_getf (by decide +kernel : decode (bOf 10) 19 = .ok (.getfield 24, 3)) (by decide +kernel) (by decide +kernel) h
theorem x_10_22 : Ev d 10 22 (a0 :: .int x :: L) st μ Q = Ev d 10 23 (a0 :: .int x :: L) (.int x :: st) μ Q := e_iload_n (by decide +kernel : decode (bOf 10) 22 = .ok (.iload_n 1, 1)) rfl
theorem x_10_23 (h : kd t r = 6) (hi : inB x (ln t r) = true) : Ev d 10 23 L (.int x :: .ref r :: st) (t, V, A, P) Q = Ev d 10 24 L (.int (A r x.toNatClampNeg) :: st) (t, V, A, P) Q := e_iald (by decide +kernel : decode (bOf 10) 23 = .ok (.iaload, 1)) h hi
theorem x_10_24 : Ev d 10 24 L st μ Q = Ev d 10 29 L st μ Q := e_goto (by decide +kernel : decode (bOf 10) 24 = .ok (.goto 5, 3)) (by omega)
theorem x_10_27 : Ev d 10 27 L st μ Q = Ev d 10 29 L (.int (iI (-9)) :: st) μ Q := e_bipush (by decide +kernel : decode (bOf 10) 27 = .ok (.bipush (-9), 2)) (by decide +kernel)
theorem x_10_29 : Ev d 10 29 L [.int x] μ Q = Q (some (.int x)) μ := e_iret (by decide +kernel : decode (bOf 10) 29 = .ok (.ireturn, 1)) (by decide +kernel)
theorem c_11 : Call (d + 1) 11 [a0, a1, a2] μ Q = Ev d 11 0 [a0, a1, a2, .null, .null, .null] [] μ Q := call_ev rfl
theorem x_11_0 : Ev d 11 0 (a0 :: .int x :: L) st μ Q = Ev d 11 1 (a0 :: .int x :: L) (.int x :: st) μ Q := e_iload_n (by decide +kernel : decode (bOf 11) 0 = .ok (.iload_n 1, 1)) rfl
theorem x_11_1 : Ev d 11 1 L (.int x :: st) μ Q = if x < iI 0 then Ev d 11 10 L st μ Q else Ev d 11 4 L st μ Q := e_if_lt (by decide +kernel : decode (bOf 11) 1 = .ok (.ifCond .lt 9, 3)) (by omega)
theorem x_11_4 : Ev d 11 4 (a0 :: .int x :: L) st μ Q = Ev d 11 5 (a0 :: .int x :: L) (.int x :: st) μ Q := e_iload_n (by decide +kernel : decode (bOf 11) 4 = .ok (.iload_n 1, 1)) rfl
theorem x_11_5 : Ev d 11 5 L st μ Q = Ev d 11 7 L (.int (iI 6) :: st) μ Q := e_bipush (by decide +kernel : decode (bOf 11) 5 = .ok (.bipush 6, 2)) (by decide +kernel)
theorem x_11_7 : Ev d 11 7 L (.int y :: .int x :: st) μ Q = if y < x then Ev d 11 10 L st μ Q else Ev d 11 11 L st μ Q := e_icmp_le (by decide +kernel : decode (bOf 11) 7 = .ok (.if_icmp .le 4, 3)) (by omega)
theorem x_11_10 : Ev d 11 10 L [] μ Q = Q none μ := e_ret (by decide +kernel : decode (bOf 11) 10 = .ok (.return_, 1)) (by decide +kernel)
theorem x_11_11 : Ev d 11 11 (.ref r :: L) st μ Q = Ev d 11 12 (.ref r :: L) (.ref r :: st) μ Q := e_aload_n (by decide +kernel : decode (bOf 11) 11 = .ok (.aload_n 0, 1)) rfl
theorem x_11_12 (h : kd t r = 0) : Ev d 11 12 L (.ref r :: st) (t, V, A, P) Q = Ev d 11 15 L (V r 0 :: st) (t, V, A, P) Q := e_getf (by decide +kernel : decode (bOf 11) 12 = .ok (.getfield 11, 3)) (by decide +kernel) (by decide +kernel) h
theorem x_11_15 : Ev d 11 15 (a0 :: .int x :: L) st μ Q = Ev d 11 16 (a0 :: .int x :: L) (.int x :: st) μ Q := e_iload_n (by decide +kernel : decode (bOf 11) 15 = .ok (.iload_n 1, 1)) rfl
theorem x_11_16 (h : kd t r = 8) (hi : inB x (ln t r) = true) : Ev d 11 16 L (.int x :: .ref r :: st) (t, V, A, P) Q = Ev d 11 17 L (va_rf (P r x.toNatClampNeg) :: st) (t, V, A, P) Q := e_aald 8 (by omega) (by decide +kernel : decode (bOf 11) 16 = .ok (.aaload, 1)) h hi
theorem x_11_17 (h : a2.category = 1) : Ev d 11 17 (a0 :: a1 :: a2 :: a3 :: L) (.ref r :: st) μ Q = Ev d 11 18 (a0 :: a1 :: a2 :: .ref r :: L) st μ Q := e_astore_n (by decide +kernel : decode (bOf 11) 17 = .ok (.astore_n 3, 1)) (by simp [stOK, h])
theorem x_11_18 : Ev d 11 18 (a0 :: a1 :: a2 :: .ref r :: L) st μ Q = Ev d 11 19 (a0 :: a1 :: a2 :: .ref r :: L) (.ref r :: st) μ Q := e_aload_n (by decide +kernel : decode (bOf 11) 18 = .ok (.aload_n 3, 1)) rfl
theorem x_11_19 : Ev d 11 19 L (.ref r :: st) μ Q = Ev d 11 22 L st μ Q := e_ifnull (by decide +kernel : decode (bOf 11) 19 = .ok (.ifnull 14, 3))
theorem x_11_22 : Ev d 11 22 (a0 :: a1 :: a2 :: .ref r :: L) st μ Q = Ev d 11 23 (a0 :: a1 :: a2 :: .ref r :: L) (.ref r :: st) μ Q := e_aload_n (by decide +kernel : decode (bOf 11) 22 = .ok (.aload_n 3, 1)) rfl
theorem x_11_23 (h : kd t r = 2) : Ev d 11 23 L (.ref r :: st) (t, V, A, P) Q = Ev d 11 26 L (V r 4 :: st) (t, V, A, P) Q := e_getf (by decide +kernel : decode (bOf 11) 23 = .ok (.getfield 60, 3)) (by decide +kernel) (by decide +kernel) h
theorem x_11_26 : Ev d 11 26 (.ref r :: L) st μ Q = Ev d 11 27 (.ref r :: L) (.ref r :: st) μ Q := e_aload_n (by decide +kernel : decode (bOf 11) 26 = .ok (.aload_n 0, 1)) rfl
theorem x_11_27 (h : kd t r = 0) : Ev d 11 27 L (.ref r :: st) (t, V, A, P) Q = Ev d 11 30 L (V r 5 :: st) (t, V, A, P) Q := e_getf (by decide +kernel : decode (bOf 11) 27 = .ok (.getfield 31, 3)) (by decide +kernel) (by decide +kernel) h
theorem x_11_30 : Ev d 11 30 L (.int y :: .int x :: st) μ Q = if x < y then Ev d 11 34 L st μ Q else Ev d 11 33 L st μ Q := e_icmp_lt (by decide +kernel : decode (bOf 11) 30 = .ok (.if_icmp .lt 4, 3)) (by omega)
theorem x_11_33 : Ev d 11 33 L [] μ Q = Q none μ := e_ret (by decide +kernel : decode (bOf 11) 33 = .ok (.return_, 1)) (by decide +kernel)
theorem x_11_34 : Ev d 11 34 (a0 :: .int x :: L) st μ Q = Ev d 11 35 (a0 :: .int x :: L) (.int x :: st) μ Q := e_iload_n (by decide +kernel : decode (bOf 11) 34 = .ok (.iload_n 1, 1)) rfl
theorem x_11_35 : Ev d 11 35 (.ref r :: L) st μ Q = Ev d 11 36 (.ref r :: L) (.ref r :: st) μ Q := e_aload_n (by decide +kernel : decode (bOf 11) 35 = .ok (.aload_n 0, 1)) rfl
theorem x_11_36 (h : kd t r = 0) : Ev d 11 36 L (.ref r :: st) (t, V, A, P) Q = Ev d 11 39 L (V r 4 :: st) (t, V, A, P) Q := e_getf (by decide +kernel : decode (bOf 11) 36 = .ok (.getfield 27, 3)) (by decide +kernel) (by decide +kernel) h
theorem x_11_39 : Ev d 11 39 L (.int y :: .int x :: st) μ Q = if x < y then Ev d 11 42 L st μ Q else Ev d 11 48 L st μ Q := e_icmp_ge (by decide +kernel : decode (bOf 11) 39 = .ok (.if_icmp .ge 9, 3)) (by omega)
theorem x_11_42 : Ev d 11 42 (a0 :: .int x :: L) st μ Q = Ev d 11 43 (a0 :: .int x :: L) (.int x :: st) μ Q := e_iload_n (by decide +kernel : decode (bOf 11) 42 = .ok (.iload_n 1, 1)) rfl
theorem x_11_43 : Ev d 11 43 L st μ Q = Ev d 11 45 L (.int (iI 6) :: st) μ Q := e_bipush (by decide +kernel : decode (bOf 11) 43 = .ok (.bipush 6, 2)) (by decide +kernel)
theorem x_11_45 : Ev d 11 45 L (.int y :: .int x :: st) μ Q = if x < y then Ev d 11 57 L st μ Q else Ev d 11 48 L st μ Q := e_icmp_lt (by decide +kernel : decode (bOf 11) 45 = .ok (.if_icmp .lt 12, 3)) (by omega)
theorem x_11_48 : Ev d 11 48 (.ref r :: L) st μ Q = Ev d 11 49 (.ref r :: L) (.ref r :: st) μ Q := e_aload_n (by decide +kernel : decode (bOf 11) 48 = .ok (.aload_n 0, 1)) rfl
theorem x_11_49 : Ev d 11 49 (a0 :: a1 :: a2 :: .ref r :: L) st μ Q = Ev d 11 50 (a0 :: a1 :: a2 :: .ref r :: L) (.ref r :: st) μ Q := e_aload_n (by decide +kernel : decode (bOf 11) 49 = .ok (.aload_n 3, 1)) rfl
theorem x_11_50 (h : kd t r = 2) : Ev d 11 50 L (.ref r :: st) (t, V, A, P) Q = Ev d 11 53 L (V r 4 :: st) (t, V, A, P) Q := e_getf (by decide +kernel : decode (bOf 11) 50 = .ok (.getfield 60, 3)) (by decide +kernel) (by decide +kernel) h
theorem x_11_53 (h : kd t r = 0) : Ev d 11 53 L [b0, .ref r] (t, V, A, P) Q = Call d 12 [.ref r, b0] (t, V, A, P) (fun v μ1 => Ev d 11 56 L (v.toList ++ []) μ1 Q) := e_callV (a := [b0]) (r := []) (by decide +kernel : decode (bOf 11) 53 = .ok (.invokevirtual 63, 3)) (by decide +kernel) (by decide +kernel) (by decide +kernel) (by decide +kernel) (by simp) (by decide +kernel) h
theorem x_11_56 : Ev d 11 56 L [] μ Q = Q none μ := e_ret (by decide +kernel : decode (bOf 11) 56 = .ok (.return_, 1)) (by decide +kernel)
theorem x_11_57 : Ev d 11 57 (.ref r :: L) st μ Q = Ev d 11 58 (.ref r :: L) (.ref r :: st) μ Q := e_aload_n (by decide +kernel : decode (bOf 11) 57 = .ok (.aload_n 0, 1)) rfl
theorem x_11_58 (h : kd t r = 0) : Ev d 11 58 L (.ref r :: st) (t, V, A, P) Q = Ev d 11 61 L (V r 0 :: st) (t, V, A, P) Q := e_getf (by decide +kernel : decode (bOf 11) 58 = .ok (.getfield 11, 3)) (by decide +kernel) (by decide +kernel) h
theorem x_11_61 : Ev d 11 61 (a0 :: .int x :: L) st μ Q = Ev d 11 62 (a0 :: .int x :: L) (.int x :: st) μ Q := e_iload_n (by decide +kernel : decode (bOf 11) 61 = .ok (.iload_n 1, 1)) rfl
theorem x_11_62 : Ev d 11 62 L st μ Q = Ev d 11 63 L (.int (iI 1) :: st) μ Q := e_iconst (by decide +kernel : decode (bOf 11) 62 = .ok (.iconst 1, 1))
theorem x_11_63 : Ev d 11 63 L (.int y :: .int x :: st) μ Q = Ev d 11 64 L (.int (x + y) :: st) μ Q := e_iadd (by decide +kernel : decode (bOf 11) 63 = .ok (.iadd, 1))
theorem x_11_64 (h : kd t r = 8) (hi : inB x (ln t r) = true) : Ev d 11 64 L (.int x :: .ref r :: st) (t, V, A, P) Q = Ev d 11 65 L (va_rf (P r x.toNatClampNeg) :: st) (t, V, A, P) Q := e_aald 8 (by omega) (by decide +kernel : decode (bOf 11) 64 = .ok (.aaload, 1)) h hi
theorem x_11_65 (h : a3.category = 1) : Ev d 11 65 (a0 :: a1 :: a2 :: a3 :: a4 :: L) (.ref r :: st) μ Q = Ev d 11 67 (a0 :: a1 :: a2 :: a3 :: .ref r :: L) st μ Q := e_astore (by decide +kernel : decode (bOf 11) 65 = .ok (.astore 4, 2)) (by simp [stOK, h])
theorem x_11_67 : Ev d 11 67 L st μ Q = Ev d 11 68 L (.int (iI 0) :: st) μ Q := e_iconst (by decide +kernel : decode (bOf 11) 67 = .ok (.iconst 0, 1))
theorem x_11_68 (h : a4.category = 1) : Ev d 11 68 (a0 :: a1 :: a2 :: a3 :: a4 :: a5 :: L) (.int x :: st) μ Q = Ev d 11 70 (a0 :: a1 :: a2 :: a3 :: a4 :: .int x :: L) st μ Q := e_istore (by decide +kernel : decode (bOf 11) 68 = .ok (.istore 5, 2)) (by simp [stOK, h])
theorem x_11_70 : Ev d 11 70 (a0 :: a1 :: a2 :: a3 :: .ref r :: L) st μ Q = Ev d 11 72 (a0 :: a1 :: a2 :: a3 :: .ref r :: L) (.ref r :: st) μ Q := e_aload (by decide +kernel : decode (bOf 11) 70 = .ok (.aload 4, 2)) rfl
theorem x_11_72 : Ev d 11 72 L (.ref r :: st) μ Q = Ev d 11 75 L st μ Q := e_ifnull (by decide +kernel : decode (bOf 11) 72 = .ok (.ifnull 81, 3))
theorem x_11_75 : Ev d 11 75 (a0 :: a1 :: a2 :: a3 :: a4 :: .int x :: L) st μ Q = Ev d 11 77 (a0 :: a1 :: a2 :: a3 :: a4 :: .int x :: L) (.int x :: st) μ Q := e_iload (by decide +kernel : decode (bOf 11) 75 = .ok (.iload 5, 2)) rfl
theorem x_11_77 : Ev d 11 77 (.ref r :: L) st μ Q = Ev d 11 78 (.ref r :: L) (.ref r :: st) μ Q := e_aload_n (by decide +kernel : decode (bOf 11) 77 = .ok (.aload_n 0, 1)) rfl
theorem x_11_78 (h : kd t r = 0) : Ev d 11 78 L (.ref r :: st) (t, V, A, P) Q = Ev d 11 81 L (V r 4 :: st) (t, V, A, P) Q := e_getf (by decide +kernel : decode (bOf 11) 78 = .ok (.getfield 27, 3)) (by decide +kernel) (by decide +kernel) h
theorem x_11_81 : Ev d 11 81 L (.int y :: .int x :: st) μ Q = if x < y then Ev d 11 84 L st μ Q else Ev d 11 153 L st μ Q := e_icmp_ge (by decide +kernel : decode (bOf 11) 81 = .ok (.if_icmp .ge 72, 3)) (by omega)
theorem x_11_84 : Ev d 11 84 (a0 :: a1 :: a2 :: a3 :: a4 :: .int x :: L) st μ Q = Ev d 11 86 (a0 :: a1 :: a2 :: a3 :: a4 :: .int x :: L) (.int x :: st) μ Q := e_iload (by decide +kernel : decode (bOf 11) 84 = .ok (.iload 5, 2)) rfl
theorem x_11_86 : Ev d 11 86 L st μ Q = Ev d 11 88 L (.int (iI 6) :: st) μ Q := e_bipush (by decide +kernel : decode (bOf 11) 86 = .ok (.bipush 6, 2)) (by decide +kernel)
theorem x_11_88 : Ev d 11 88 L (.int y :: .int x :: st) μ Q = if x < y then Ev d 11 91 L st μ Q else Ev d 11 153 L st μ Q := e_icmp_ge (by decide +kernel : decode (bOf 11) 88 = .ok (.if_icmp .ge 65, 3)) (by omega)
theorem x_11_91 : Ev d 11 91 (a0 :: a1 :: .int x :: L) st μ Q = Ev d 11 92 (a0 :: a1 :: .int x :: L) (.int x :: st) μ Q := e_iload_n (by decide +kernel : decode (bOf 11) 91 = .ok (.iload_n 2, 1)) rfl
theorem x_11_92 : Ev d 11 92 L st μ Q = Ev d 11 93 L (.int (iI 1) :: st) μ Q := e_iconst (by decide +kernel : decode (bOf 11) 92 = .ok (.iconst 1, 1))
theorem x_11_93 : Ev d 11 93 (a0 :: a1 :: a2 :: a3 :: a4 :: .int x :: L) st μ Q = Ev d 11 95 (a0 :: a1 :: a2 :: a3 :: a4 :: .int x :: L) (.int x :: st) μ Q := e_iload (by decide +kernel : decode (bOf 11) 93 = .ok (.iload 5, 2)) rfl
theorem x_11_95 : Ev d 11 95 L (.int y :: .int x :: st) μ Q = Ev d 11 96 L (.int (x <<< (y &&& 31)) :: st) μ Q := e_ishl (by decide +kernel : decode (bOf 11) 95 = .ok (.ishl, 1))
theorem x_11_96 : Ev d 11 96 L (.int y :: .int x :: st) μ Q = Ev d 11 97 L (.int (x &&& y) :: st) μ Q := e_iand (by decide +kernel : decode (bOf 11) 96 = .ok (.iand, 1))
theorem x_11_97 : Ev d 11 97 L (.int x :: st) μ Q = if x = iI 0 then Ev d 11 100 L st μ Q else Ev d 11 147 L st μ Q := e_if_ne (by decide +kernel : decode (bOf 11) 97 = .ok (.ifCond .ne 50, 3)) (by omega)
theorem x_11_100 : Ev d 11 100 (.ref r :: L) st μ Q = Ev d 11 101 (.ref r :: L) (.ref r :: st) μ Q := e_aload_n (by decide +kernel : decode (bOf 11) 100 = .ok (.aload_n 0, 1)) rfl
theorem x_11_101 (h : kd t r = 0) : Ev d 11 101 L (.ref r :: st) (t, V, A, P) Q = Ev d 11 104 L (V r 2 :: st) (t, V, A, P) Q := e_getf (by decide +kernel : decode (bOf 11) 101 = .ok (.getfield 21, 3)) (by decide +kernel) (by decide +kernel) h
theorem x_11_104 : Ev d 11 104 (a0 :: .int x :: L) st μ Q = Ev d 11 105 (a0 :: .int x :: L) (.int x :: st) μ Q := e_iload_n (by decide +kernel : decode (bOf 11) 104 = .ok (.iload_n 1, 1)) rfl
theorem x_11_105 : Ev d 11 105 (a0 :: a1 :: a2 :: a3 :: a4 :: .int x :: L) st μ Q = Ev d 11 107 (a0 :: a1 :: a2 :: a3 :: a4 :: .int x :: L) (.int x :: st) μ Q := e_iload (by decide +kernel : decode (bOf 11) 105 = .ok (.iload 5, 2)) rfl
theorem x_11_107 (h : kd t r = 6) (hi : inB x (ln t r) = true) : Ev d 11 107 L (.int y :: .int x :: .ref r :: st) (t, V, A, P) Q = Ev d 11 108 L st (t, V, up1 A r (upd (A r) x.toNatClampNeg y), P) Q := e_iast (by decide +kernel : decode (bOf 11) 107 = .ok (.iastore, 1)) h hi
theorem x_11_108 : Ev d 11 108 (a0 :: a1 :: a2 :: a3 :: .ref r :: L) st μ Q = Ev d 11 110 (a0 :: a1 :: a2 :: a3 :: .ref r :: L) (.ref r :: st) μ Q := e_aload (by decide +kernel : decode (bOf 11) 108 = .ok (.aload 4, 2)) rfl
theorem x_11_110 : Ev d 11 110 (a0 :: a1 :: a2 :: .ref r :: L) st μ Q = Ev d 11 111 (a0 :: a1 :: a2 :: .ref r :: L) (.ref r :: st) μ Q := e_aload_n (by decide +kernel : decode (bOf 11) 110 = .ok (.aload_n 3, 1)) rfl
theorem x_11_111 (h : kd t r = 2) : Ev d 11 111 L [b0, .ref r] (t, V, A, P) Q = Call d 25 [.ref r, b0] (t, V, A, P) (fun v μ1 => Ev d 11 114 L (v.toList ++ []) μ1 Q) := e_callV (a := [b0]) (r := []) (by decide +kernel : decode (bOf 11) 111 = .ok (.invokevirtual 66, 3)) (by decide +kernel) (by decide +kernel) (by decide +kernel) (by decide +kernel) (by simp) (by decide +kernel) h
theorem x_11_114 : Ev d 11 114 (a0 :: a1 :: a2 :: a3 :: .ref r :: L) st μ Q = Ev d 11 116 (a0 :: a1 :: a2 :: a3 :: .ref r :: L) (.ref r :: st) μ Q := e_aload (by decide +kernel : decode (bOf 11) 114 = .ok (.aload 4, 2)) rfl
theorem x_11_116 : Ev d 11 116 (.ref r :: L) st μ Q = Ev d 11 117 (.ref r :: L) (.ref r :: st) μ Q := e_aload_n (by decide +kernel : decode (bOf 11) 116 = .ok (.aload_n 0, 1)) rfl
theorem x_11_117 (h : kd t r = 0) : Ev d 11 117 L (.ref r :: st) (t, V, A, P) Q = Ev d 11 120 L (V r 1 :: st) (t, V, A, P) Q := e_getf (by decide +kernel : decode (bOf 11) 117 = .ok (.getfield 17, 3)) (by decide +kernel) (by decide +kernel) h
theorem x_11_120 : Ev d 11 120 (a0 :: a1 :: a2 :: a3 :: a4 :: .int x :: L) st μ Q = Ev d 11 122 (a0 :: a1 :: a2 :: a3 :: a4 :: .int x :: L) (.int x :: st) μ Q := e_iload (by decide +kernel : decode (bOf 11) 120 = .ok (.iload 5, 2)) rfl
theorem x_11_122 (h : kd t r = 6) (hi : inB x (ln t r) = true) : Ev d 11 122 L (.int x :: .ref r :: st) (t, V, A, P) Q = Ev d 11 123 L (.int (A r x.toNatClampNeg) :: st) (t, V, A, P) Q := e_iald (by decide +kernel : decode (bOf 11) 122 = .ok (.iaload, 1)) h hi
theorem x_11_123 : Ev d 11 123 (a0 :: a1 :: a2 :: .ref r :: L) st μ Q = Ev d 11 124 (a0 :: a1 :: a2 :: .ref r :: L) (.ref r :: st) μ Q := e_aload_n (by decide +kernel : decode (bOf 11) 123 = .ok (.aload_n 3, 1)) rfl
theorem x_11_124 (h : kd t r = 2) : Ev d 11 124 L (.ref r :: st) (t, V, A, P) Q = Ev d 11 127 L (V r 0 :: st) (t, V, A, P) Q := e_getf (by decide +kernel : decode (bOf 11) 124 = .ok (.getfield 70, 3)) (by decide +kernel) (by decide +kernel) h
theorem x_11_127 : Ev d 11 127 L [b1, b0, s0] μ Q = Call d 3 [b0, b1] μ (fun v μ1 => Ev d 11 130 L (v.toList ++ [s0]) μ1 Q) := e_callS (a := [b0, b1]) (r := [s0]) (by decide +kernel : decode (bOf 11) 127 = .ok (.invokestatic 73, 3)) (by decide +kernel) (by decide +kernel) (by decide +kernel) (by simp)
theorem x_11_130 (h : kd t r = 2) : Ev d 11 130 L [b0, .ref r] (t, V, A, P) Q = Call d 27 [.ref r, b0] (t, V, A, P) (fun v μ1 => Ev d 11 133 L (v.toList ++ []) μ1 Q) := e_callV (a := [b0]) (r := []) (by decide +kernel : decode (bOf 11) 130 = .ok (.invokevirtual 56, 3)) (by decide +kernel) (by decide +kernel) (by decide +kernel) (by decide +kernel) (by simp) (by decide +kernel) h
theorem x_11_133 : Ev d 11 133 L (.int x :: st) μ Q = Ev d 11 134 L st μ Q := e_pop (by decide +kernel : decode (bOf 11) 133 = .ok (.pop, 1))
theorem x_11_134 : Ev d 11 134 (.ref r :: L) st μ Q = Ev d 11 135 (.ref r :: L) (.ref r :: st) μ Q := e_aload_n (by decide +kernel : decode (bOf 11) 134 = .ok (.aload_n 0, 1)) rfl
theorem x_11_135 : Ev d 11 135 (a0 :: .int x :: L) st μ Q = Ev d 11 136 (a0 :: .int x :: L) (.int x :: st) μ Q := e_iload_n (by decide +kernel : decode (bOf 11) 135 = .ok (.iload_n 1, 1)) rfl
theorem x_11_136 : Ev d 11 136 L st μ Q = Ev d 11 137 L (.int (iI 1) :: st) μ Q := e_iconst (by decide +kernel : decode (bOf 11) 136 = .ok (.iconst 1, 1))
theorem x_11_137 : Ev d 11 137 L (.int y :: .int x :: st) μ Q = Ev d 11 138 L (.int (x + y) :: st) μ Q := e_iadd (by decide +kernel : decode (bOf 11) 137 = .ok (.iadd, 1))
theorem x_11_138 : Ev d 11 138 (a0 :: a1 :: .int x :: L) st μ Q = Ev d 11 139 (a0 :: a1 :: .int x :: L) (.int x :: st) μ Q := e_iload_n (by decide +kernel : decode (bOf 11) 138 = .ok (.iload_n 2, 1)) rfl
theorem x_11_139 : Ev d 11 139 L st μ Q = Ev d 11 140 L (.int (iI 1) :: st) μ Q := e_iconst (by decide +kernel : decode (bOf 11) 139 = .ok (.iconst 1, 1))
theorem x_11_140 : Ev d 11 140 (a0 :: a1 :: a2 :: a3 :: a4 :: .int x :: L) st μ Q = Ev d 11 142 (a0 :: a1 :: a2 :: a3 :: a4 :: .int x :: L) (.int x :: st) μ Q := e_iload (by decide +kernel : decode (bOf 11) 140 = .ok (.iload 5, 2)) rfl
theorem x_11_142 : Ev d 11 142 L (.int y :: .int x :: st) μ Q = Ev d 11 143 L (.int (x <<< (y &&& 31)) :: st) μ Q := e_ishl (by decide +kernel : decode (bOf 11) 142 = .ok (.ishl, 1))
theorem x_11_143 : Ev d 11 143 L (.int y :: .int x :: st) μ Q = Ev d 11 144 L (.int (x ||| y) :: st) μ Q := e_ior (by decide +kernel : decode (bOf 11) 143 = .ok (.ior, 1))
theorem x_11_144 : Ev d 11 144 L [b2, b1, b0] μ Q = Call d 11 [b0, b1, b2] μ (fun v μ1 => Ev d 11 147 L (v.toList ++ []) μ1 Q) := e_callS (a := [b0, b1, b2]) (r := []) (by decide +kernel : decode (bOf 11) 144 = .ok (.invokestatic 45, 3)) (by decide +kernel) (by decide +kernel) (by decide +kernel) (by simp)
theorem x_11_147 (h : a4.category = 1) : Ev d 11 147 (a0 :: a1 :: a2 :: a3 :: a4 :: .int x :: L) st μ Q = Ev d 11 150 (a0 :: a1 :: a2 :: a3 :: a4 :: .int (x + (iI 1)) :: L) st μ Q := e_iinc (by decide +kernel : decode (bOf 11) 147 = .ok (.iinc 5 1, 3)) rfl (by simp [stOK, h])
theorem x_11_150 : Ev d 11 150 L st μ Q = Ev d 11 70 L st μ Q := e_goto (by decide +kernel : decode (bOf 11) 150 = .ok (.goto (-80), 3)) (by omega)
theorem x_11_153 : Ev d 11 153 L [] μ Q = Q none μ := e_ret (by decide +kernel : decode (bOf 11) 153 = .ok (.return_, 1)) (by decide +kernel)
theorem c_12 : Call (d + 1) 12 [a0, a1] μ Q = Ev d 12 0 [a0, a1, .null] [] μ Q := call_ev rfl
theorem x_12_0 : Ev d 12 0 (.ref r :: L) st μ Q = Ev d 12 1 (.ref r :: L) (.ref r :: st) μ Q := e_aload_n (by decide +kernel : decode (bOf 12) 0 = .ok (.aload_n 0, 1)) rfl
theorem x_12_1 : Ev d 12 1 (a0 :: .int x :: L) st μ Q = Ev d 12 2 (a0 :: .int x :: L) (.int x :: st) μ Q := e_iload_n (by decide +kernel : decode (bOf 12) 1 = .ok (.iload_n 1, 1)) rfl
theorem x_12_2 (h : kd t r = 0) : Ev d 12 2 L (.int x :: .ref r :: st) (t, V, A, P) Q = Ev d 12 5 L st (t, up1 V r (up1 (V r) 5 (.int x)), A, P) Q := e_putf (by decide +kernel : decode (bOf 12) 2 = .ok (.putfield 31, 3)) (by decide +kernel) (by decide +kernel) rfl h
theorem x_12_5 : Ev d 12 5 L st μ Q = Ev d 12 6 L (.int (iI 0) :: st) μ Q := e_iconst (by decide +kernel : decode (bOf 12) 5 = .ok (.iconst 0, 1))
theorem x_12_6 (h : a1.category = 1) : Ev d 12 6 (a0 :: a1 :: a2 :: L) (.int x :: st) μ Q = Ev d 12 7 (a0 :: a1 :: .int x :: L) st μ Q := e_istore_n (by decide +kernel : decode (bOf 12) 6 = .ok (.istore_n 2, 1)) (by simp [stOK, h])
theorem x_12_7 : Ev d 12 7 (a0 :: a1 :: .int x :: L) st μ Q = Ev d 12 8 (a0 :: a1 :: .int x :: L) (.int x :: st) μ Q := e_iload_n (by decide +kernel : decode (bOf 12) 7 = .ok (.iload_n 2, 1)) rfl
theorem x_12_8 : Ev d 12 8 L st μ Q = Ev d 12 10 L (.int (iI 6) :: st) μ Q := e_bipush (by decide +kernel : decode (bOf 12) 8 = .ok (.bipush 6, 2)) (by decide +kernel)
theorem x_12_10 : Ev d 12 10 L (.int y :: .int x :: st) μ Q = if x < y then Ev d 12 13 L st μ Q else Ev d 12 31 L st μ Q := e_icmp_ge (by decide +kernel : decode (bOf 12) 10 = .ok (.if_icmp .ge 21, 3)) (by omega)
theorem x_12_13 : Ev d 12 13 (.ref r :: L) st μ Q = Ev d 12 14 (.ref r :: L) (.ref r :: st) μ Q := e_aload_n (by decide +kernel : decode (bOf 12) 13 = .ok (.aload_n 0, 1)) rfl
theorem x_12_14 (h : kd t r = 0) : Ev d 12 14 L (.ref r :: st) (t, V, A, P) Q = Ev d 12 17 L (V r 3 :: st) (t, V, A, P) Q := e_getf (by decide +kernel : decode (bOf 12) 14 = .ok (.getfield 24, 3)) (by decide +kernel) (by decide +kernel) h
theorem x_12_17 : Ev d 12 17 (a0 :: a1 :: .int x :: L) st μ Q = Ev d 12 18 (a0 :: a1 :: .int x :: L) (.int x :: st) μ Q := e_iload_n (by decide +kernel : decode (bOf 12) 17 = .ok (.iload_n 2, 1)) rfl
theorem x_12_18 : Ev d 12 18 (.ref r :: L) st μ Q = Ev d 12 19 (.ref r :: L) (.ref r :: st) μ Q := e_aload_n (by decide +kernel : decode (bOf 12) 18 = .ok (.aload_n 0, 1)) rfl
theorem x_12_19 (h : kd t r = 0) : Ev d 12 19 L (.ref r :: st) (t, V, A, P) Q = Ev d 12 22 L (V r 2 :: st) (t, V, A, P) Q := e_getf (by decide +kernel : decode (bOf 12) 19 = .ok (.getfield 21, 3)) (by decide +kernel) (by decide +kernel) h
theorem x_12_22 : Ev d 12 22 (a0 :: a1 :: .int x :: L) st μ Q = Ev d 12 23 (a0 :: a1 :: .int x :: L) (.int x :: st) μ Q := e_iload_n (by decide +kernel : decode (bOf 12) 22 = .ok (.iload_n 2, 1)) rfl
theorem x_12_23 (h : kd t r = 6) (hi : inB x (ln t r) = true) : Ev d 12 23 L (.int x :: .ref r :: st) (t, V, A, P) Q = Ev d 12 24 L (.int (A r x.toNatClampNeg) :: st) (t, V, A, P) Q := e_iald (by decide +kernel : decode (bOf 12) 23 = .ok (.iaload, 1)) h hi
theorem x_12_24 (h : kd t r = 6) (hi : inB x (ln t r) = true) : Ev d 12 24 L (.int y :: .int x :: .ref r :: st) (t, V, A, P) Q = Ev d 12 25 L st (t, V, up1 A r (upd (A r) x.toNatClampNeg y), P) Q := e_iast (by decide +kernel : decode (bOf 12) 24 = .ok (.iastore, 1)) h hi
theorem x_12_25 (h : a1.category = 1) : Ev d 12 25 (a0 :: a1 :: .int x :: L) st μ Q = Ev d 12 28 (a0 :: a1 :: .int (x + (iI 1)) :: L) st μ Q := e_iinc (by decide +kernel : decode (bOf 12) 25 = .ok (.iinc 2 1, 3)) rfl (by simp [stOK, h])
theorem x_12_28 : Ev d 12 28 L st μ Q = Ev d 12 7 L st μ Q := e_goto (by decide +kernel : decode (bOf 12) 28 = .ok (.goto (-21), 3)) (by omega)
theorem x_12_31 : Ev d 12 31 L [] μ Q = Q none μ := e_ret (by decide +kernel : decode (bOf 12) 31 = .ok (.return_, 1)) (by decide +kernel)
end Xa
end
section
theorem i_vc : Claimed_1_1 ∧ Claimed_1_2 := sorry
end
