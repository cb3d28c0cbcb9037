-- ===== PART A: goes FIRST, ahead of the names: the tables' words, and 'selects' of the private methods out of them =====
/-- a private method of a class that the tables say can be made, by its rows of tables_1 -/
def lw_okq (q : MethodName × Nat) : Prop := (q.1.cls ≠ "java/lang/invoke/MethodHandle" ∧ q.1.cls ≠ "java/lang/invoke/VarHandle") ∧ Cond.instantiable q.1.cls q.2 ∈ tables_1 ∧ Cond.privateMethod q.1 ∈ tables_1 ∧ Cond.instanceMethod q.1 ∈ tables_1
theorem lw_p0 : lw_okq (⟨"EvenWords", "faultPlace", "()I"⟩, 12) := ⟨⟨by decide +kernel, by decide +kernel⟩, List.mem_of_getElem? (i := 11) (by decide +kernel), List.mem_of_getElem? (i := 204) (by decide +kernel), List.mem_of_getElem? (i := 205) (by decide +kernel)⟩
theorem lw_p1 : lw_okq (⟨"EvenWords", "isTokenStart", "(I)Z"⟩, 12) := ⟨⟨by decide +kernel, by decide +kernel⟩, List.mem_of_getElem? (i := 11) (by decide +kernel), List.mem_of_getElem? (i := 208) (by decide +kernel), List.mem_of_getElem? (i := 209) (by decide +kernel)⟩
theorem lw_p2 : lw_okq (⟨"EvenWords", "letterAt", "(I)I"⟩, 12) := ⟨⟨by decide +kernel, by decide +kernel⟩, List.mem_of_getElem? (i := 11) (by decide +kernel), List.mem_of_getElem? (i := 212) (by decide +kernel), List.mem_of_getElem? (i := 213) (by decide +kernel)⟩
theorem lw_p3 : lw_okq (⟨"EvenWords", "figureAt", "(I)I"⟩, 12) := ⟨⟨by decide +kernel, by decide +kernel⟩, List.mem_of_getElem? (i := 11) (by decide +kernel), List.mem_of_getElem? (i := 216) (by decide +kernel), List.mem_of_getElem? (i := 217) (by decide +kernel)⟩
theorem lw_p4 : lw_okq (⟨"EvenWords", "afterToken", "(II)I"⟩, 12) := ⟨⟨by decide +kernel, by decide +kernel⟩, List.mem_of_getElem? (i := 11) (by decide +kernel), List.mem_of_getElem? (i := 220) (by decide +kernel), List.mem_of_getElem? (i := 221) (by decide +kernel)⟩
theorem lw_p5 : lw_okq (⟨"EvenWords", "numberAt", "(I)I"⟩, 12) := ⟨⟨by decide +kernel, by decide +kernel⟩, List.mem_of_getElem? (i := 11) (by decide +kernel), List.mem_of_getElem? (i := 224) (by decide +kernel), List.mem_of_getElem? (i := 225) (by decide +kernel)⟩
theorem lw_p6 : lw_okq (⟨"EvenWords", "afterNumber", "(III)I"⟩, 12) := ⟨⟨by decide +kernel, by decide +kernel⟩, List.mem_of_getElem? (i := 11) (by decide +kernel), List.mem_of_getElem? (i := 228) (by decide +kernel), List.mem_of_getElem? (i := 229) (by decide +kernel)⟩
theorem lw_p7 : lw_okq (⟨"EvenWords", "remember", "()V"⟩, 12) := ⟨⟨by decide +kernel, by decide +kernel⟩, List.mem_of_getElem? (i := 11) (by decide +kernel), List.mem_of_getElem? (i := 232) (by decide +kernel), List.mem_of_getElem? (i := 233) (by decide +kernel)⟩
theorem lw_p8 : lw_okq (⟨"EvenWords", "forgetOldest", "()V"⟩, 12) := ⟨⟨by decide +kernel, by decide +kernel⟩, List.mem_of_getElem? (i := 11) (by decide +kernel), List.mem_of_getElem? (i := 236) (by decide +kernel), List.mem_of_getElem? (i := 237) (by decide +kernel)⟩
theorem lw_p9 : lw_okq (⟨"EvenWords$Wire", "noteMark", "(I)V"⟩, 7) := ⟨⟨by decide +kernel, by decide +kernel⟩, List.mem_of_getElem? (i := 19) (by decide +kernel), List.mem_of_getElem? (i := 261) (by decide +kernel), List.mem_of_getElem? (i := 262) (by decide +kernel)⟩
theorem lw_p10 : lw_okq (⟨"EvenWords", "sendOne", "(I)I"⟩, 12) := ⟨⟨by decide +kernel, by decide +kernel⟩, List.mem_of_getElem? (i := 11) (by decide +kernel), List.mem_of_getElem? (i := 269) (by decide +kernel), List.mem_of_getElem? (i := 270) (by decide +kernel)⟩
theorem lw_p11 : lw_okq (⟨"EvenWords$Walk", "formBreach", "(I)I"⟩, 5) := ⟨⟨by decide +kernel, by decide +kernel⟩, List.mem_of_getElem? (i := 61) (by decide +kernel), List.mem_of_getElem? (i := 385) (by decide +kernel), List.mem_of_getElem? (i := 386) (by decide +kernel)⟩
theorem lw_p12 : lw_okq (⟨"EvenWords$Reading", "isRightTurned", "(II)Z"⟩, 10) := ⟨⟨by decide +kernel, by decide +kernel⟩, List.mem_of_getElem? (i := 55) (by decide +kernel), List.mem_of_getElem? (i := 420) (by decide +kernel), List.mem_of_getElem? (i := 421) (by decide +kernel)⟩
theorem lw_p13 : lw_okq (⟨"EvenWords$Orders", "walkAhead", "(LEvenWords$Wire;I)V"⟩, 6) := ⟨⟨by decide +kernel, by decide +kernel⟩, List.mem_of_getElem? (i := 124) (by decide +kernel), List.mem_of_getElem? (i := 453) (by decide +kernel), List.mem_of_getElem? (i := 454) (by decide +kernel)⟩
theorem lw_p14 : lw_okq (⟨"EvenWords$Orders", "settle", "(I)V"⟩, 6) := ⟨⟨by decide +kernel, by decide +kernel⟩, List.mem_of_getElem? (i := 124) (by decide +kernel), List.mem_of_getElem? (i := 462) (by decide +kernel), List.mem_of_getElem? (i := 463) (by decide +kernel)⟩
theorem lw_p15 : lw_okq (⟨"EvenWords", "longestRun", "()I"⟩, 12) := ⟨⟨by decide +kernel, by decide +kernel⟩, List.mem_of_getElem? (i := 11) (by decide +kernel), List.mem_of_getElem? (i := 499) (by decide +kernel), List.mem_of_getElem? (i := 500) (by decide +kernel)⟩
def lw_privs_1 : List (MethodName × Nat) := [(⟨"EvenWords", "faultPlace", "()I"⟩, 12), (⟨"EvenWords", "isTokenStart", "(I)Z"⟩, 12), (⟨"EvenWords", "letterAt", "(I)I"⟩, 12), (⟨"EvenWords", "figureAt", "(I)I"⟩, 12), (⟨"EvenWords", "afterToken", "(II)I"⟩, 12), (⟨"EvenWords", "numberAt", "(I)I"⟩, 12), (⟨"EvenWords", "afterNumber", "(III)I"⟩, 12), (⟨"EvenWords", "remember", "()V"⟩, 12), (⟨"EvenWords", "forgetOldest", "()V"⟩, 12), (⟨"EvenWords$Wire", "noteMark", "(I)V"⟩, 7), (⟨"EvenWords", "sendOne", "(I)I"⟩, 12), (⟨"EvenWords$Walk", "formBreach", "(I)I"⟩, 5), (⟨"EvenWords$Reading", "isRightTurned", "(II)Z"⟩, 10), (⟨"EvenWords$Orders", "walkAhead", "(LEvenWords$Wire;I)V"⟩, 6), (⟨"EvenWords$Orders", "settle", "(I)V"⟩, 6), (⟨"EvenWords", "longestRun", "()I"⟩, 12)]
theorem lw_r1 : ∀ q ∈ lw_privs_1, lw_okq q := List.forall_mem_cons.mpr ⟨lw_p0, List.forall_mem_cons.mpr ⟨lw_p1, List.forall_mem_cons.mpr ⟨lw_p2, List.forall_mem_cons.mpr ⟨lw_p3, List.forall_mem_cons.mpr ⟨lw_p4, List.forall_mem_cons.mpr ⟨lw_p5, List.forall_mem_cons.mpr ⟨lw_p6, List.forall_mem_cons.mpr ⟨lw_p7, List.forall_mem_cons.mpr ⟨lw_p8, List.forall_mem_cons.mpr ⟨lw_p9, List.forall_mem_cons.mpr ⟨lw_p10, List.forall_mem_cons.mpr ⟨lw_p11, List.forall_mem_cons.mpr ⟨lw_p12, List.forall_mem_cons.mpr ⟨lw_p13, List.forall_mem_cons.mpr ⟨lw_p14, List.forall_mem_cons.mpr ⟨lw_p15, fun _ h => absurd h List.not_mem_nil⟩⟩⟩⟩⟩⟩⟩⟩⟩⟩⟩⟩⟩⟩⟩⟩
theorem lw_p16 : lw_okq (⟨"EvenWordsModel", "bares", "()V"⟩, 32) := ⟨⟨by decide +kernel, by decide +kernel⟩, List.mem_of_getElem? (i := 507) (by decide +kernel), List.mem_of_getElem? (i := 513) (by decide +kernel), List.mem_of_getElem? (i := 514) (by decide +kernel)⟩
theorem lw_p17 : lw_okq (⟨"EvenWordsModel", "readsText", "()V"⟩, 32) := ⟨⟨by decide +kernel, by decide +kernel⟩, List.mem_of_getElem? (i := 507) (by decide +kernel), List.mem_of_getElem? (i := 629) (by decide +kernel), List.mem_of_getElem? (i := 630) (by decide +kernel)⟩
theorem lw_p18 : lw_okq (⟨"EvenWordsModel", "advances", "()V"⟩, 32) := ⟨⟨by decide +kernel, by decide +kernel⟩, List.mem_of_getElem? (i := 507) (by decide +kernel), List.mem_of_getElem? (i := 633) (by decide +kernel), List.mem_of_getElem? (i := 634) (by decide +kernel)⟩
theorem lw_p19 : lw_okq (⟨"EvenWordsModel", "letterAt", "(I)I"⟩, 32) := ⟨⟨by decide +kernel, by decide +kernel⟩, List.mem_of_getElem? (i := 507) (by decide +kernel), List.mem_of_getElem? (i := 637) (by decide +kernel), List.mem_of_getElem? (i := 638) (by decide +kernel)⟩
theorem lw_p20 : lw_okq (⟨"EvenWordsModel", "takes", "(Z)I"⟩, 32) := ⟨⟨by decide +kernel, by decide +kernel⟩, List.mem_of_getElem? (i := 507) (by decide +kernel), List.mem_of_getElem? (i := 641) (by decide +kernel), List.mem_of_getElem? (i := 642) (by decide +kernel)⟩
theorem lw_p21 : lw_okq (⟨"EvenWordsModel", "notes", "()V"⟩, 32) := ⟨⟨by decide +kernel, by decide +kernel⟩, List.mem_of_getElem? (i := 507) (by decide +kernel), List.mem_of_getElem? (i := 645) (by decide +kernel), List.mem_of_getElem? (i := 646) (by decide +kernel)⟩
theorem lw_p22 : lw_okq (⟨"EvenWordsModel", "sent", "(I)I"⟩, 32) := ⟨⟨by decide +kernel, by decide +kernel⟩, List.mem_of_getElem? (i := 507) (by decide +kernel), List.mem_of_getElem? (i := 649) (by decide +kernel), List.mem_of_getElem? (i := 650) (by decide +kernel)⟩
theorem lw_p23 : lw_okq (⟨"EvenWordsModel", "remembers", "(I)V"⟩, 32) := ⟨⟨by decide +kernel, by decide +kernel⟩, List.mem_of_getElem? (i := 507) (by decide +kernel), List.mem_of_getElem? (i := 665) (by decide +kernel), List.mem_of_getElem? (i := 666) (by decide +kernel)⟩
theorem lw_p24 : lw_okq (⟨"EvenWordsModel", "isBit", "(I)Z"⟩, 32) := ⟨⟨by decide +kernel, by decide +kernel⟩, List.mem_of_getElem? (i := 507) (by decide +kernel), List.mem_of_getElem? (i := 681) (by decide +kernel), List.mem_of_getElem? (i := 682) (by decide +kernel)⟩
theorem lw_p25 : lw_okq (⟨"EvenWordsModel", "reads", "(III)V"⟩, 32) := ⟨⟨by decide +kernel, by decide +kernel⟩, List.mem_of_getElem? (i := 507) (by decide +kernel), List.mem_of_getElem? (i := 719) (by decide +kernel), List.mem_of_getElem? (i := 720) (by decide +kernel)⟩
theorem lw_p26 : lw_okq (⟨"EvenWordsModel", "lays", "()V"⟩, 32) := ⟨⟨by decide +kernel, by decide +kernel⟩, List.mem_of_getElem? (i := 507) (by decide +kernel), List.mem_of_getElem? (i := 723) (by decide +kernel), List.mem_of_getElem? (i := 724) (by decide +kernel)⟩
theorem lw_p27 : lw_okq (⟨"EvenWordsModel", "bitAt", "(II)I"⟩, 32) := ⟨⟨by decide +kernel, by decide +kernel⟩, List.mem_of_getElem? (i := 507) (by decide +kernel), List.mem_of_getElem? (i := 727) (by decide +kernel), List.mem_of_getElem? (i := 728) (by decide +kernel)⟩
theorem lw_p28 : lw_okq (⟨"EvenWordsModel", "firstBreach", "()I"⟩, 32) := ⟨⟨by decide +kernel, by decide +kernel⟩, List.mem_of_getElem? (i := 507) (by decide +kernel), List.mem_of_getElem? (i := 736) (by decide +kernel), List.mem_of_getElem? (i := 737) (by decide +kernel)⟩
theorem lw_p29 : lw_okq (⟨"EvenWordsModel", "blames", "(II)V"⟩, 32) := ⟨⟨by decide +kernel, by decide +kernel⟩, List.mem_of_getElem? (i := 507) (by decide +kernel), List.mem_of_getElem? (i := 740) (by decide +kernel), List.mem_of_getElem? (i := 741) (by decide +kernel)⟩
theorem lw_p30 : lw_okq (⟨"EvenWordsModel", "laysLevels", "()V"⟩, 32) := ⟨⟨by decide +kernel, by decide +kernel⟩, List.mem_of_getElem? (i := 507) (by decide +kernel), List.mem_of_getElem? (i := 753) (by decide +kernel), List.mem_of_getElem? (i := 754) (by decide +kernel)⟩
theorem lw_p31 : lw_okq (⟨"EvenWordsModel", "evenestOf", "(I)I"⟩, 32) := ⟨⟨by decide +kernel, by decide +kernel⟩, List.mem_of_getElem? (i := 507) (by decide +kernel), List.mem_of_getElem? (i := 761) (by decide +kernel), List.mem_of_getElem? (i := 762) (by decide +kernel)⟩
def lw_privs_2 : List (MethodName × Nat) := [(⟨"EvenWordsModel", "bares", "()V"⟩, 32), (⟨"EvenWordsModel", "readsText", "()V"⟩, 32), (⟨"EvenWordsModel", "advances", "()V"⟩, 32), (⟨"EvenWordsModel", "letterAt", "(I)I"⟩, 32), (⟨"EvenWordsModel", "takes", "(Z)I"⟩, 32), (⟨"EvenWordsModel", "notes", "()V"⟩, 32), (⟨"EvenWordsModel", "sent", "(I)I"⟩, 32), (⟨"EvenWordsModel", "remembers", "(I)V"⟩, 32), (⟨"EvenWordsModel", "isBit", "(I)Z"⟩, 32), (⟨"EvenWordsModel", "reads", "(III)V"⟩, 32), (⟨"EvenWordsModel", "lays", "()V"⟩, 32), (⟨"EvenWordsModel", "bitAt", "(II)I"⟩, 32), (⟨"EvenWordsModel", "firstBreach", "()I"⟩, 32), (⟨"EvenWordsModel", "blames", "(II)V"⟩, 32), (⟨"EvenWordsModel", "laysLevels", "()V"⟩, 32), (⟨"EvenWordsModel", "evenestOf", "(I)I"⟩, 32)]
theorem lw_r2 : ∀ q ∈ lw_privs_2, lw_okq q := List.forall_mem_cons.mpr ⟨lw_p16, List.forall_mem_cons.mpr ⟨lw_p17, List.forall_mem_cons.mpr ⟨lw_p18, List.forall_mem_cons.mpr ⟨lw_p19, List.forall_mem_cons.mpr ⟨lw_p20, List.forall_mem_cons.mpr ⟨lw_p21, List.forall_mem_cons.mpr ⟨lw_p22, List.forall_mem_cons.mpr ⟨lw_p23, List.forall_mem_cons.mpr ⟨lw_p24, List.forall_mem_cons.mpr ⟨lw_p25, List.forall_mem_cons.mpr ⟨lw_p26, List.forall_mem_cons.mpr ⟨lw_p27, List.forall_mem_cons.mpr ⟨lw_p28, List.forall_mem_cons.mpr ⟨lw_p29, List.forall_mem_cons.mpr ⟨lw_p30, List.forall_mem_cons.mpr ⟨lw_p31, fun _ h => absurd h List.not_mem_nil⟩⟩⟩⟩⟩⟩⟩⟩⟩⟩⟩⟩⟩⟩⟩⟩
theorem lw_p32 : lw_okq (⟨"EvenWordsModel", "laysAhead", "(I)V"⟩, 32) := ⟨⟨by decide +kernel, by decide +kernel⟩, List.mem_of_getElem? (i := 507) (by decide +kernel), List.mem_of_getElem? (i := 765) (by decide +kernel), List.mem_of_getElem? (i := 766) (by decide +kernel)⟩
theorem lw_p33 : lw_okq (⟨"EvenWordsModel", "lengthens", "(I)V"⟩, 32) := ⟨⟨by decide +kernel, by decide +kernel⟩, List.mem_of_getElem? (i := 507) (by decide +kernel), List.mem_of_getElem? (i := 769) (by decide +kernel), List.mem_of_getElem? (i := 770) (by decide +kernel)⟩
theorem lw_p34 : lw_okq (⟨"EvenWordsModel", "isOrder", "(II)Z"⟩, 32) := ⟨⟨by decide +kernel, by decide +kernel⟩, List.mem_of_getElem? (i := 507) (by decide +kernel), List.mem_of_getElem? (i := 773) (by decide +kernel), List.mem_of_getElem? (i := 774) (by decide +kernel)⟩
theorem lw_p35 : lw_okq (⟨"EvenWordsModel", "oneMany", "()I"⟩, 32) := ⟨⟨by decide +kernel, by decide +kernel⟩, List.mem_of_getElem? (i := 507) (by decide +kernel), List.mem_of_getElem? (i := 795) (by decide +kernel), List.mem_of_getElem? (i := 796) (by decide +kernel)⟩
theorem lw_p36 : lw_okq (⟨"EvenWordsModel", "turnedMany", "()I"⟩, 32) := ⟨⟨by decide +kernel, by decide +kernel⟩, List.mem_of_getElem? (i := 507) (by decide +kernel), List.mem_of_getElem? (i := 799) (by decide +kernel), List.mem_of_getElem? (i := 800) (by decide +kernel)⟩
theorem lw_p37 : lw_okq (⟨"EvenWordsModel", "longest", "()I"⟩, 32) := ⟨⟨by decide +kernel, by decide +kernel⟩, List.mem_of_getElem? (i := 507) (by decide +kernel), List.mem_of_getElem? (i := 803) (by decide +kernel), List.mem_of_getElem? (i := 804) (by decide +kernel)⟩
theorem lw_p38 : lw_okq (⟨"EvenWordsModel", "markMany", "()I"⟩, 32) := ⟨⟨by decide +kernel, by decide +kernel⟩, List.mem_of_getElem? (i := 507) (by decide +kernel), List.mem_of_getElem? (i := 807) (by decide +kernel), List.mem_of_getElem? (i := 808) (by decide +kernel)⟩
def lw_privs_3 : List (MethodName × Nat) := [(⟨"EvenWordsModel", "laysAhead", "(I)V"⟩, 32), (⟨"EvenWordsModel", "lengthens", "(I)V"⟩, 32), (⟨"EvenWordsModel", "isOrder", "(II)Z"⟩, 32), (⟨"EvenWordsModel", "oneMany", "()I"⟩, 32), (⟨"EvenWordsModel", "turnedMany", "()I"⟩, 32), (⟨"EvenWordsModel", "longest", "()I"⟩, 32), (⟨"EvenWordsModel", "markMany", "()I"⟩, 32)]
theorem lw_r3 : ∀ q ∈ lw_privs_3, lw_okq q := List.forall_mem_cons.mpr ⟨lw_p32, List.forall_mem_cons.mpr ⟨lw_p33, List.forall_mem_cons.mpr ⟨lw_p34, List.forall_mem_cons.mpr ⟨lw_p35, List.forall_mem_cons.mpr ⟨lw_p36, List.forall_mem_cons.mpr ⟨lw_p37, List.forall_mem_cons.mpr ⟨lw_p38, fun _ h => absurd h List.not_mem_nil⟩⟩⟩⟩⟩⟩⟩
def lw_privs : List (MethodName × Nat) := lw_privs_1 ++ (lw_privs_2 ++ (lw_privs_3))
def lw_tbl : List Cond := k2_sels lw_privs ++ tables_1
theorem lw_privs_ok : ∀ q ∈ lw_privs, lw_okq q := by
  show ∀ q ∈ lw_privs_1 ++ (lw_privs_2 ++ (lw_privs_3)), lw_okq q
  exact List.forall_mem_append.mpr ⟨lw_r1, List.forall_mem_append.mpr ⟨lw_r2, lw_r3⟩⟩
def RX1 : String := "EvenWords$Orders"
def RX2 : String := "EvenWords$Reading"
def RX3 : String := "EvenWords$Walk"
def RX4 : String := "EvenWords$Wire"
def RX5 : String := "EvenWords"
def RX6 : String := "EvenWordsModel"
def RX0 : String := "EvenWords$Forms"
def TX1 : u_T := fun k => match k with
  | 0 => ("EvenWords$Orders", "walks", "[LEvenWords$Walk;", true)
  | 1 => ("EvenWords$Orders", "kinds", "[I", true)
  | 2 => ("EvenWords$Orders", "order", "[I", true)
  | 3 => ("EvenWords$Orders", "best", "[I", true)
  | 4 => ("EvenWords$Orders", "many", "I", false)
  | _ => ("EvenWords$Orders", "least", "I", false)
def tyX1 : Nat → FieldType := fun k => match k with
  | 0 => .array (.object "EvenWords$Walk")
  | 1 => .array .int
  | 2 => .array .int
  | 3 => .array .int
  | 4 => .int
  | _ => .int
theorem nmX1 : ∀ a, a < 6 → ∀ b, b < 6 → a ≠ b → (TX1 a).2.1 ≠ (TX1 b).2.1 := by decide +kernel
theorem tyX1_ok : ∀ k, k < 6 → parseFieldDescriptor (TX1 k).2.2.1 = some (tyX1 k) := by decide +kernel
def TX2 : u_T := fun k => match k with
  | 0 => ("EvenWords$Reading", "pieces", "[I", true)
  | 1 => ("EvenWords$Reading", "walk", "LEvenWords$Walk;", true)
  | 2 => ("EvenWords$Reading", "trial", "LEvenWords$Walk;", true)
  | 3 => ("EvenWords$Reading", "from", "I", false)
  | 4 => ("EvenWords$Reading", "begin", "I", false)
  | 5 => ("EvenWords$Reading", "many", "I", false)
  | 6 => ("EvenWords$Reading", "first", "I", false)
  | 7 => ("EvenWords$Reading", "broken", "I", false)
  | 8 => ("EvenWords$Reading", "blamed", "I", false)
  | _ => ("EvenWords$Reading", "lowest", "I", false)
def tyX2 : Nat → FieldType := fun k => match k with
  | 0 => .array .int
  | 1 => .object "EvenWords$Walk"
  | 2 => .object "EvenWords$Walk"
  | 3 => .int
  | 4 => .int
  | 5 => .int
  | 6 => .int
  | 7 => .int
  | 8 => .int
  | _ => .int
theorem nmX2 : ∀ a, a < 10 → ∀ b, b < 10 → a ≠ b → (TX2 a).2.1 ≠ (TX2 b).2.1 := by decide +kernel
theorem tyX2_ok : ∀ k, k < 10 → parseFieldDescriptor (TX2 k).2.2.1 = some (tyX2 k) := by decide +kernel
def TX3 : u_T := fun k => match k with
  | 0 => ("EvenWords$Walk", "sum", "I", false)
  | 1 => ("EvenWords$Walk", "height", "I", false)
  | 2 => ("EvenWords$Walk", "lastBit", "I", false)
  | 3 => ("EvenWords$Walk", "run", "I", false)
  | _ => ("EvenWords$Walk", "longest", "I", false)
def tyX3 : Nat → FieldType := fun k => match k with
  | 0 => .int
  | 1 => .int
  | 2 => .int
  | 3 => .int
  | _ => .int
theorem nmX3 : ∀ a, a < 5 → ∀ b, b < 5 → a ≠ b → (TX3 a).2.1 ≠ (TX3 b).2.1 := by decide +kernel
theorem tyX3_ok : ∀ k, k < 5 → parseFieldDescriptor (TX3 k).2.2.1 = some (tyX3 k) := by decide +kernel
def TX4 : u_T := fun k => match k with
  | 0 => ("EvenWords$Wire", "kinds", "[I", true)
  | 1 => ("EvenWords$Wire", "sent", "[I", true)
  | 2 => ("EvenWords$Wire", "now", "[I", true)
  | 3 => ("EvenWords$Wire", "words", "I", false)
  | 4 => ("EvenWords$Wire", "sum", "I", false)
  | 5 => ("EvenWords$Wire", "olderMark", "I", false)
  | _ => ("EvenWords$Wire", "latestMark", "I", false)
def tyX4 : Nat → FieldType := fun k => match k with
  | 0 => .array .int
  | 1 => .array .int
  | 2 => .array .int
  | 3 => .int
  | 4 => .int
  | 5 => .int
  | _ => .int
theorem nmX4 : ∀ a, a < 7 → ∀ b, b < 7 → a ≠ b → (TX4 a).2.1 ≠ (TX4 b).2.1 := by decide +kernel
theorem tyX4_ok : ∀ k, k < 7 → parseFieldDescriptor (TX4 k).2.2.1 = some (tyX4 k) := by decide +kernel
def TX5 : u_T := fun k => match k with
  | 0 => ("EvenWords", "wire", "LEvenWords$Wire;", true)
  | 1 => ("EvenWords", "earlier", "[LEvenWords$Wire;", true)
  | 2 => ("EvenWords", "images", "[LEvenWords$Wire;", true)
  | 3 => ("EvenWords", "kept", "[Z", true)
  | 4 => ("EvenWords", "text", "[I", true)
  | 5 => ("EvenWords", "told", "[I", true)
  | 6 => ("EvenWords", "reading", "LEvenWords$Reading;", true)
  | 7 => ("EvenWords", "orders", "LEvenWords$Orders;", true)
  | 8 => ("EvenWords", "walk", "LEvenWords$Walk;", true)
  | 9 => ("EvenWords", "letters", "I", false)
  | 10 => ("EvenWords", "items", "I", false)
  | _ => ("EvenWords", "undoable", "I", false)
def tyX5 : Nat → FieldType := fun k => match k with
  | 0 => .object "EvenWords$Wire"
  | 1 => .array (.object "EvenWords$Wire")
  | 2 => .array (.object "EvenWords$Wire")
  | 3 => .array .boolean
  | 4 => .array .int
  | 5 => .array .int
  | 6 => .object "EvenWords$Reading"
  | 7 => .object "EvenWords$Orders"
  | 8 => .object "EvenWords$Walk"
  | 9 => .int
  | 10 => .int
  | _ => .int
theorem nmX5 : ∀ a, a < 12 → ∀ b, b < 12 → a ≠ b → (TX5 a).2.1 ≠ (TX5 b).2.1 := by decide +kernel
theorem tyX5_ok : ∀ k, k < 12 → parseFieldDescriptor (TX5 k).2.2.1 = some (tyX5 k) := by decide +kernel
def TX6 : u_T := fun k => match k with
  | 0 => ("EvenWordsModel", "thrown", "I", false)
  | 1 => ("EvenWordsModel", "s", "[I", true)
  | 2 => ("EvenWordsModel", "past", "[I", true)
  | 3 => ("EvenWordsModel", "undoMany", "I", false)
  | 4 => ("EvenWordsModel", "images", "[I", true)
  | 5 => ("EvenWordsModel", "isKept", "[Z", true)
  | 6 => ("EvenWordsModel", "text", "[I", true)
  | 7 => ("EvenWordsModel", "typed", "I", false)
  | 8 => ("EvenWordsModel", "draft", "[I", true)
  | 9 => ("EvenWordsModel", "draftMany", "I", false)
  | 10 => ("EvenWordsModel", "meant", "[I", true)
  | 11 => ("EvenWordsModel", "inForm", "[I", true)
  | 12 => ("EvenWordsModel", "isLaid", "Z", false)
  | 13 => ("EvenWordsModel", "at", "I", false)
  | 14 => ("EvenWordsModel", "place", "I", false)
  | 15 => ("EvenWordsModel", "token", "I", false)
  | 16 => ("EvenWordsModel", "value", "I", false)
  | 17 => ("EvenWordsModel", "fault", "I", false)
  | 18 => ("EvenWordsModel", "pieces", "I", false)
  | 19 => ("EvenWordsModel", "number", "[I", true)
  | 20 => ("EvenWordsModel", "rightly", "[I", true)
  | 21 => ("EvenWordsModel", "breach", "[I", true)
  | 22 => ("EvenWordsModel", "sumBehind", "[I", true)
  | 23 => ("EvenWordsModel", "blamedMany", "I", false)
  | 24 => ("EvenWordsModel", "lowestBlamed", "I", false)
  | 25 => ("EvenWordsModel", "level", "[I", true)
  | 26 => ("EvenWordsModel", "tailSum", "I", false)
  | 27 => ("EvenWordsModel", "tailBit", "I", false)
  | 28 => ("EvenWordsModel", "tailRun", "I", false)
  | 29 => ("EvenWordsModel", "tailLongest", "I", false)
  | 30 => ("EvenWordsModel", "row", "[I", true)
  | _ => ("EvenWordsModel", "best", "[I", true)
def tyX6 : Nat → FieldType := fun k => match k with
  | 0 => .int
  | 1 => .array .int
  | 2 => .array .int
  | 3 => .int
  | 4 => .array .int
  | 5 => .array .boolean
  | 6 => .array .int
  | 7 => .int
  | 8 => .array .int
  | 9 => .int
  | 10 => .array .int
  | 11 => .array .int
  | 12 => .boolean
  | 13 => .int
  | 14 => .int
  | 15 => .int
  | 16 => .int
  | 17 => .int
  | 18 => .int
  | 19 => .array .int
  | 20 => .array .int
  | 21 => .array .int
  | 22 => .array .int
  | 23 => .int
  | 24 => .int
  | 25 => .array .int
  | 26 => .int
  | 27 => .int
  | 28 => .int
  | 29 => .int
  | 30 => .array .int
  | _ => .array .int
theorem nmX6 : ∀ a, a < 32 → ∀ b, b < 32 → a ≠ b → (TX6 a).2.1 ≠ (TX6 b).2.1 := by decide +kernel
theorem tyX6_ok : ∀ k, k < 32 → parseFieldDescriptor (TX6 k).2.2.1 = some (tyX6 k) := by decide +kernel
abbrev vwCl : List vw_C := [(RX1, TX1, 6), (RX2, TX2, 10), (RX3, TX3, 5), (RX4, TX4, 7), (RX5, TX5, 12), (RX6, TX6, 32)]
def mvTy : List (Nat → FieldType) := [tyX1, tyX2, tyX3, tyX4, tyX5, tyX6]
def mvOwn : List String := ["EvenWords$Orders", "EvenWords$Reading", "EvenWords$Walk", "EvenWords$Wire", "EvenWords", "EvenWordsModel", "EvenWords$Forms", "java/lang/Integer", "java/lang/Math", "EvenWordsLaw"]
def mvY : List MethodName := [⟨"EvenWords$Forms", "isKind", "(I)Z"⟩, ⟨"EvenWords$Forms", "formDue", "(II)I"⟩, ⟨"EvenWords$Forms", "meaning", "(I)I"⟩, ⟨"EvenWords$Forms", "isRight", "(II)Z"⟩, ⟨"EvenWords$Forms", "sumBehind", "(II)I"⟩, ⟨"EvenWords$Orders", "<init>", "()V"⟩, ⟨"EvenWords$Orders", "search", "(LEvenWords$Wire;I)V"⟩, ⟨"EvenWords$Orders", "walkAhead", "(LEvenWords$Wire;I)V"⟩, ⟨"EvenWords$Orders", "bestAt", "(I)I"⟩, ⟨"EvenWords$Orders", "arrange", "(LEvenWords$Orders;II)V"⟩, ⟨"EvenWords$Orders", "settle", "(I)V"⟩, ⟨"EvenWords$Reading", "<init>", "()V"⟩, ⟨"EvenWords$Reading", "load", "(LEvenWords$Wire;II)V"⟩, ⟨"EvenWords$Reading", "pieceAt", "(I)I"⟩, ⟨"EvenWords$Reading", "sumAhead", "(I)I"⟩, ⟨"EvenWords$Reading", "sumBehind", "(I)I"⟩, ⟨"EvenWords$Reading", "breachesAt", "(I)I"⟩, ⟨"EvenWords$Reading", "check", "()V"⟩, ⟨"EvenWords$Reading", "blame", "()V"⟩, ⟨"EvenWords$Reading", "isRightTurned", "(II)Z"⟩, ⟨"EvenWords$Reading", "late", "()I"⟩, ⟨"EvenWords$Walk", "<init>", "()V"⟩, ⟨"EvenWords$Walk", "start", "(I)V"⟩, ⟨"EvenWords$Walk", "become", "(LEvenWords$Walk;)V"⟩, ⟨"EvenWords$Walk", "step", "(I)V"⟩, ⟨"EvenWords$Walk", "take", "(I)I"⟩, ⟨"EvenWords$Walk", "formBreach", "(I)I"⟩, ⟨"EvenWords$Wire", "<init>", "()V"⟩, ⟨"EvenWords$Wire", "empty", "()V"⟩, ⟨"EvenWords$Wire", "carry", "(LEvenWords$Wire;LEvenWords$Wire;)V"⟩, ⟨"EvenWords$Wire", "send", "(I)I"⟩, ⟨"EvenWords$Wire", "noteMark", "(I)V"⟩, ⟨"EvenWords$Wire", "markSentLately", "(I)I"⟩, ⟨"EvenWords$Wire", "bits", "()I"⟩, ⟨"EvenWords$Wire", "hasBit", "(I)Z"⟩, ⟨"EvenWords$Wire", "bitAt", "(I)I"⟩, ⟨"EvenWords$Wire", "turn", "(I)V"⟩, ⟨"EvenWords$Wire", "placeOf", "(I)I"⟩, ⟨"EvenWords$Wire", "ones", "()I"⟩, ⟨"EvenWords$Wire", "turned", "()I"⟩, ⟨"EvenWords$Wire", "marksSent", "()I"⟩, ⟨"EvenWords", "<init>", "()V"⟩, ⟨"EvenWords", "type", "(I)I"⟩, ⟨"EvenWords", "clear", "()I"⟩, ⟨"EvenWords", "tells", "()I"⟩, ⟨"EvenWords", "sends", "(I)I"⟩, ⟨"EvenWords", "marks", "(I)I"⟩, ⟨"EvenWords", "flips", "(I)I"⟩, ⟨"EvenWords", "clears", "()I"⟩, ⟨"EvenWords", "undo", "()I"⟩, ⟨"EvenWords", "form", "(II)I"⟩, ⟨"EvenWords", "bit", "(I)I"⟩, ⟨"EvenWords", "word", "(I)I"⟩, ⟨"EvenWords", "recent", "(I)I"⟩, ⟨"EvenWords", "piece", "(IIII)I"⟩, ⟨"EvenWords", "read", "(III)I"⟩, ⟨"EvenWords", "cuts", "(I)I"⟩, ⟨"EvenWords", "level", "(II)I"⟩, ⟨"EvenWords", "evenest", "(II)I"⟩, ⟨"EvenWords", "weight", "(I)I"⟩, ⟨"EvenWords", "keep", "(I)I"⟩, ⟨"EvenWords", "back", "(I)I"⟩, ⟨"EvenWords", "count", "(I)I"⟩, ⟨"EvenWords", "sendOne", "(I)I"⟩, ⟨"EvenWords", "remember", "()V"⟩, ⟨"EvenWords", "forgetOldest", "()V"⟩, ⟨"EvenWords", "longestRun", "()I"⟩, ⟨"EvenWords", "faultPlace", "()I"⟩, ⟨"EvenWords", "isTokenStart", "(I)Z"⟩, ⟨"EvenWords", "afterToken", "(II)I"⟩, ⟨"EvenWords", "afterNumber", "(III)I"⟩, ⟨"EvenWords", "numberAt", "(I)I"⟩, ⟨"EvenWords", "figureAt", "(I)I"⟩, ⟨"EvenWords", "letterAt", "(I)I"⟩, ⟨"EvenWords", "canRead", "(II)Z"⟩, ⟨"EvenWords", "sumOf", "(I)I"⟩, ⟨"EvenWords", "signOf", "(I)I"⟩, ⟨"EvenWordsModel", "<init>", "()V"⟩, ⟨"EvenWordsModel", "bares", "()V"⟩, ⟨"EvenWordsModel", "in", "(III)Z"⟩, ⟨"EvenWordsModel", "ones", "(I)I"⟩, ⟨"EvenWordsModel", "isMark", "(I)Z"⟩, ⟨"EvenWordsModel", "kth", "(II)I"⟩, ⟨"EvenWordsModel", "formOf", "(II)I"⟩, ⟨"EvenWordsModel", "lays", "()V"⟩, ⟨"EvenWordsModel", "letterAt", "(I)I"⟩, ⟨"EvenWordsModel", "type", "(I)I"⟩, ⟨"EvenWordsModel", "clear", "()I"⟩, ⟨"EvenWordsModel", "advances", "()V"⟩, ⟨"EvenWordsModel", "takes", "(Z)I"⟩, ⟨"EvenWordsModel", "readsText", "()V"⟩, ⟨"EvenWordsModel", "tells", "()I"⟩, ⟨"EvenWordsModel", "notes", "()V"⟩, ⟨"EvenWordsModel", "remembers", "(I)V"⟩, ⟨"EvenWordsModel", "sent", "(I)I"⟩, ⟨"EvenWordsModel", "sends", "(I)I"⟩, ⟨"EvenWordsModel", "marks", "(I)I"⟩, ⟨"EvenWordsModel", "isBit", "(I)Z"⟩, ⟨"EvenWordsModel", "flips", "(I)I"⟩, ⟨"EvenWordsModel", "clears", "()I"⟩, ⟨"EvenWordsModel", "undo", "()I"⟩, ⟨"EvenWordsModel", "form", "(II)I"⟩, ⟨"EvenWordsModel", "bit", "(I)I"⟩, ⟨"EvenWordsModel", "word", "(I)I"⟩, ⟨"EvenWordsModel", "recent", "(I)I"⟩, ⟨"EvenWordsModel", "bitAt", "(II)I"⟩, ⟨"EvenWordsModel", "reads", "(III)V"⟩, ⟨"EvenWordsModel", "firstBreach", "()I"⟩, ⟨"EvenWordsModel", "isBegin", "(II)Z"⟩, ⟨"EvenWordsModel", "sumOf", "(I)I"⟩, ⟨"EvenWordsModel", "piece", "(IIII)I"⟩, ⟨"EvenWordsModel", "blames", "(II)V"⟩, ⟨"EvenWordsModel", "read", "(III)I"⟩, ⟨"EvenWordsModel", "cuts", "(I)I"⟩, ⟨"EvenWordsModel", "laysLevels", "()V"⟩, ⟨"EvenWordsModel", "longest", "()I"⟩, ⟨"EvenWordsModel", "level", "(II)I"⟩, ⟨"EvenWordsModel", "lengthens", "(I)V"⟩, ⟨"EvenWordsModel", "isOrder", "(II)Z"⟩, ⟨"EvenWordsModel", "laysAhead", "(I)V"⟩, ⟨"EvenWordsModel", "evenestOf", "(I)I"⟩, ⟨"EvenWordsModel", "evenest", "(II)I"⟩, ⟨"EvenWordsModel", "weight", "(I)I"⟩, ⟨"EvenWordsModel", "keep", "(I)I"⟩, ⟨"EvenWordsModel", "back", "(I)I"⟩, ⟨"EvenWordsModel", "turnedMany", "()I"⟩, ⟨"EvenWordsModel", "oneMany", "()I"⟩, ⟨"EvenWordsModel", "markMany", "()I"⟩, ⟨"EvenWordsModel", "count", "(I)I"⟩, ⟨"java/lang/Integer", "bitCount", "(I)I"⟩, ⟨"java/lang/Math", "max", "(II)I"⟩, ⟨"EvenWordsLaw", "law", "([I)Z"⟩]
def mvB : List ByteArray := [prog_2_method_2_code, prog_2_method_3_code, prog_2_method_4_code, prog_2_method_5_code, prog_2_method_6_code, prog_3_method_1_code, prog_3_method_2_code, prog_3_method_3_code, prog_3_method_4_code, prog_3_method_5_code, prog_3_method_6_code, prog_4_method_1_code, prog_4_method_2_code, prog_4_method_3_code, prog_4_method_4_code, prog_4_method_5_code, prog_4_method_6_code, prog_4_method_7_code, prog_4_method_8_code, prog_4_method_9_code, prog_4_method_10_code, prog_5_method_1_code, prog_5_method_2_code, prog_5_method_3_code, prog_5_method_4_code, prog_5_method_5_code, prog_5_method_6_code, prog_6_method_1_code, prog_6_method_2_code, prog_6_method_3_code, prog_6_method_4_code, prog_6_method_5_code, prog_6_method_6_code, prog_6_method_7_code, prog_6_method_8_code, prog_6_method_9_code, prog_6_method_10_code, prog_6_method_11_code, prog_6_method_12_code, prog_6_method_13_code, prog_6_method_14_code, prog_1_method_1_code, prog_1_method_2_code, prog_1_method_3_code, prog_1_method_4_code, prog_1_method_5_code, prog_1_method_6_code, prog_1_method_7_code, prog_1_method_8_code, prog_1_method_9_code, prog_1_method_10_code, prog_1_method_11_code, prog_1_method_12_code, prog_1_method_13_code, prog_1_method_14_code, prog_1_method_15_code, prog_1_method_16_code, prog_1_method_17_code, prog_1_method_18_code, prog_1_method_19_code, prog_1_method_20_code, prog_1_method_21_code, prog_1_method_22_code, prog_1_method_23_code, prog_1_method_24_code, prog_1_method_25_code, prog_1_method_26_code, prog_1_method_27_code, prog_1_method_28_code, prog_1_method_29_code, prog_1_method_30_code, prog_1_method_31_code, prog_1_method_32_code, prog_1_method_33_code, prog_1_method_34_code, prog_1_method_35_code, prog_1_method_36_code, prog_8_method_1_code, prog_8_method_2_code, prog_8_method_4_code, prog_8_method_5_code, prog_8_method_6_code, prog_8_method_7_code, prog_8_method_8_code, prog_8_method_9_code, prog_8_method_10_code, prog_8_method_11_code, prog_8_method_12_code, prog_8_method_13_code, prog_8_method_14_code, prog_8_method_15_code, prog_8_method_16_code, prog_8_method_17_code, prog_8_method_18_code, prog_8_method_19_code, prog_8_method_20_code, prog_8_method_21_code, prog_8_method_22_code, prog_8_method_23_code, prog_8_method_24_code, prog_8_method_25_code, prog_8_method_26_code, prog_8_method_27_code, prog_8_method_28_code, prog_8_method_29_code, prog_8_method_30_code, prog_8_method_31_code, prog_8_method_32_code, prog_8_method_33_code, prog_8_method_34_code, prog_8_method_35_code, prog_8_method_36_code, prog_8_method_37_code, prog_8_method_38_code, prog_8_method_39_code, prog_8_method_40_code, prog_8_method_41_code, prog_8_method_42_code, prog_8_method_43_code, prog_8_method_44_code, prog_8_method_45_code, prog_8_method_46_code, prog_8_method_47_code, prog_8_method_48_code, prog_8_method_49_code, prog_8_method_50_code, prog_8_method_51_code, prog_8_method_52_code, prog_8_method_53_code, prog_9_method_49_code, prog_10_method_65_code, code]
def mvMl : List Nat := [1, 3, 1, 3, 3, 2, 5, 5, 2, 6, 3, 1, 7, 2, 4, 2, 4, 2, 4, 4, 1, 1, 2, 2, 2, 4, 2, 1, 1, 3, 3, 2, 3, 1, 2, 2, 2, 1, 3, 3, 3, 2, 2, 2, 3, 2, 2, 2, 2, 1, 3, 2, 2, 2, 6, 4, 4, 8, 3, 6, 2, 2, 2, 2, 1, 3, 2, 3, 2, 4, 4, 5, 3, 2, 2, 1, 1, 1, 2, 3, 3, 1, 5, 3, 3, 2, 2, 2, 2, 3, 3, 2, 2, 2, 4, 2, 2, 2, 2, 2, 2, 3, 2, 2, 3, 3, 13, 2, 2, 1, 5, 5, 7, 5, 3, 4, 8, 5, 6, 3, 11, 4, 6, 3, 3, 5, 3, 3, 2, 1, 2, 4]
def mvNa : List Nat := [1, 2, 1, 2, 2, 1, 3, 3, 2, 3, 2, 1, 4, 2, 2, 2, 2, 1, 1, 3, 1, 1, 2, 2, 2, 2, 2, 1, 1, 2, 2, 2, 2, 1, 2, 2, 2, 1, 1, 1, 1, 1, 2, 1, 1, 2, 2, 2, 1, 1, 3, 2, 2, 2, 5, 4, 2, 3, 3, 2, 2, 2, 2, 2, 1, 1, 1, 1, 2, 3, 4, 2, 2, 2, 2, 1, 1, 1, 1, 3, 1, 1, 2, 2, 1, 2, 2, 1, 1, 2, 1, 1, 1, 2, 2, 2, 2, 2, 2, 1, 1, 3, 2, 2, 2, 3, 4, 1, 2, 1, 5, 3, 4, 2, 1, 1, 3, 2, 3, 2, 2, 3, 2, 2, 2, 1, 1, 1, 2, 1, 2, 1]
def mvO : List Nat := [6, 6, 6, 6, 6, 0, 0, 0, 0, 0, 0, 1, 1, 1, 1, 1, 1, 1, 1, 1, 1, 2, 2, 2, 2, 2, 2, 3, 3, 3, 3, 3, 3, 3, 3, 3, 3, 3, 3, 3, 3, 4, 4, 4, 4, 4, 4, 4, 4, 4, 4, 4, 4, 4, 4, 4, 4, 4, 4, 4, 4, 4, 4, 4, 4, 4, 4, 4, 4, 4, 4, 4, 4, 4, 4, 4, 4, 5, 5, 5, 5, 5, 5, 5, 5, 5, 5, 5, 5, 5, 5, 5, 5, 5, 5, 5, 5, 5, 5, 5, 5, 5, 5, 5, 5, 5, 5, 5, 5, 5, 5, 5, 5, 5, 5, 5, 5, 5, 5, 5, 5, 5, 5, 5, 5, 5, 5, 5, 5, 7, 8, 9]
def mvSt : List Bool := [true, true, true, true, true, false, false, false, false, true, false, false, false, false, false, false, false, false, false, false, false, false, false, false, false, false, false, false, false, true, false, false, false, false, false, false, false, true, false, false, false, false, false, false, false, false, false, false, false, false, false, false, false, false, false, false, false, false, false, false, false, false, false, false, false, false, false, false, false, false, false, false, false, false, true, true, true, false, false, true, true, true, true, true, false, false, false, false, false, false, false, false, false, false, false, false, false, false, false, false, false, false, false, false, false, false, false, false, true, true, false, false, false, false, false, false, false, false, false, false, false, false, false, false, false, false, false, false, false, true, true, true]
def mvRt : List (Option FieldType) := [(some .boolean), (some .int), (some .int), (some .boolean), (some .int), none, none, none, (some .int), none, none, none, none, (some .int), (some .int), (some .int), (some .int), none, none, (some .boolean), (some .int), none, none, none, none, (some .int), (some .int), none, none, none, (some .int), none, (some .int), (some .int), (some .boolean), (some .int), none, (some .int), (some .int), (some .int), (some .int), none, (some .int), (some .int), (some .int), (some .int), (some .int), (some .int), (some .int), (some .int), (some .int), (some .int), (some .int), (some .int), (some .int), (some .int), (some .int), (some .int), (some .int), (some .int), (some .int), (some .int), (some .int), (some .int), none, none, (some .int), (some .int), (some .boolean), (some .int), (some .int), (some .int), (some .int), (some .int), (some .boolean), (some .int), (some .int), none, none, (some .boolean), (some .int), (some .boolean), (some .int), (some .int), none, (some .int), (some .int), (some .int), none, (some .int), none, (some .int), none, none, (some .int), (some .int), (some .int), (some .boolean), (some .int), (some .int), (some .int), (some .int), (some .int), (some .int), (some .int), (some .int), none, (some .int), (some .boolean), (some .int), (some .int), none, (some .int), (some .int), none, (some .int), (some .int), none, (some .boolean), none, (some .int), (some .int), (some .int), (some .int), (some .int), (some .int), (some .int), (some .int), (some .int), (some .int), (some .int), (some .boolean)]
/-- fields by link: own class, place in its pool, class, number, place of the word in tables_1 -/
def mvF : List (Nat × Nat × Nat × Nat × Nat) := [(3, 9, 3, 0, 24), (0, 44, 3, 0, 25), (4, 112, 3, 0, 26), (3, 15, 3, 1, 27), (0, 53, 3, 1, 28), (3, 18, 3, 2, 29), (3, 21, 3, 3, 30), (0, 35, 3, 3, 31), (4, 63, 3, 3, 32), (3, 25, 3, 4, 33), (4, 199, 3, 4, 34), (3, 28, 3, 5, 35), (3, 31, 3, 6, 36), (2, 9, 2, 0, 66), (0, 70, 2, 0, 67), (2, 15, 2, 1, 68), (4, 182, 2, 1, 69), (2, 18, 2, 2, 70), (2, 21, 2, 3, 71), (2, 24, 2, 4, 72), (0, 60, 2, 4, 73), (4, 217, 2, 4, 74), (1, 9, 1, 0, 87), (1, 18, 1, 1, 88), (1, 22, 1, 2, 89), (1, 25, 1, 3, 90), (1, 29, 1, 4, 91), (1, 32, 1, 5, 92), (4, 126, 1, 5, 93), (1, 35, 1, 6, 94), (4, 154, 1, 6, 95), (1, 38, 1, 7, 96), (4, 157, 1, 7, 97), (1, 41, 1, 8, 98), (4, 163, 1, 8, 99), (1, 44, 1, 9, 100), (4, 166, 1, 9, 101), (0, 11, 0, 0, 132), (0, 17, 0, 1, 133), (0, 21, 0, 2, 134), (0, 24, 0, 3, 135), (0, 27, 0, 4, 136), (0, 31, 0, 5, 137), (4, 189, 0, 5, 138), (4, 12, 4, 0, 154), (4, 16, 4, 1, 155), (4, 20, 4, 2, 156), (4, 23, 4, 3, 157), (4, 27, 4, 4, 158), (4, 31, 4, 5, 159), (4, 37, 4, 6, 160), (4, 44, 4, 7, 161), (4, 51, 4, 8, 162), (4, 55, 4, 9, 163), (4, 66, 4, 10, 164), (4, 93, 4, 11, 165), (5, 59, 5, 0, 516), (5, 7, 5, 1, 517), (5, 13, 5, 2, 518), (5, 126, 5, 3, 519), (5, 16, 5, 4, 520), (5, 19, 5, 5, 521), (5, 23, 5, 6, 522), (5, 82, 5, 7, 523), (5, 26, 5, 8, 524), (5, 110, 5, 9, 525), (5, 29, 5, 10, 526), (5, 32, 5, 11, 527), (5, 75, 5, 12, 528), (5, 89, 5, 13, 529), (5, 95, 5, 14, 530), (5, 98, 5, 15, 531), (5, 101, 5, 16, 532), (5, 104, 5, 17, 533), (5, 139, 5, 18, 534), (5, 35, 5, 19, 535), (5, 38, 5, 20, 536), (5, 41, 5, 21, 537), (5, 44, 5, 22, 538), (5, 156, 5, 23, 539), (5, 159, 5, 24, 540), (5, 47, 5, 25, 541), (5, 175, 5, 26, 542), (5, 178, 5, 27, 543), (5, 181, 5, 28, 544), (5, 184, 5, 29, 545), (5, 50, 5, 30, 546), (5, 53, 5, 31, 547)]
/-- methods by link: own class, place in its pool, method, of a nest mate, place of the word -/
def mvC : List (Nat × Nat × Nat × Bool × Nat) := [(9, 9, 41, false, 12), (4, 11, 27, true, 20), (4, 36, 11, true, 56), (1, 17, 21, true, 62), (4, 43, 5, false, 125), (0, 34, 21, true, 131), (4, 50, 21, true, 153), (9, 13, 42, false, 191), (9, 18, 43, false, 195), (9, 23, 44, false, 199), (4, 59, 67, false, 203), (4, 220, 68, false, 207), (4, 226, 73, false, 211), (4, 229, 72, false, 215), (4, 223, 69, false, 219), (4, 232, 71, false, 223), (4, 235, 70, false, 227), (4, 69, 64, false, 231), (4, 214, 65, false, 235), (4, 96, 29, false, 239), (4, 72, 30, false, 242), (3, 34, 1, false, 246), (3, 40, 4, false, 251), (6, 26, 129, false, 254), (3, 43, 31, false, 260), (9, 27, 45, false, 264), (4, 76, 63, false, 268), (9, 31, 46, false, 272), (9, 35, 47, false, 276), (4, 79, 34, false, 280), (3, 47, 33, false, 284), (4, 83, 36, false, 288), (3, 51, 34, false, 292), (3, 55, 37, false, 293), (4, 87, 35, false, 296), (9, 39, 48, false, 300), (4, 90, 28, false, 304), (9, 43, 49, false, 308), (9, 47, 50, false, 312), (4, 100, 0, false, 316), (4, 105, 75, false, 319), (4, 108, 1, false, 322), (9, 52, 51, false, 323), (9, 56, 52, false, 327), (9, 60, 53, false, 331), (4, 115, 32, false, 335), (9, 64, 54, false, 339), (4, 118, 74, false, 343), (4, 122, 12, false, 346), (1, 47, 33, false, 350), (1, 53, 35, false, 351), (4, 129, 13, false, 352), (4, 132, 2, false, 356), (4, 135, 14, false, 361), (1, 57, 13, false, 365), (1, 60, 4, false, 366), (4, 138, 3, false, 367), (6, 18, 2, false, 370), (6, 22, 1, false, 371), (4, 141, 16, false, 372), (1, 69, 22, false, 376), (1, 73, 25, false, 380), (2, 33, 26, false, 384), (2, 46, 2, false, 388), (2, 49, 3, false, 389), (2, 37, 24, false, 390), (2, 27, 130, false, 394), (2, 41, 4, false, 397), (4, 144, 15, false, 398), (1, 66, 14, false, 402), (4, 147, 76, false, 403), (9, 69, 55, false, 406), (4, 151, 17, false, 411), (4, 160, 18, false, 415), (1, 76, 19, false, 419), (1, 80, 23, false, 423), (4, 169, 20, false, 427), (9, 74, 56, false, 432), (9, 78, 57, false, 436), (4, 173, 22, false, 441), (4, 176, 33, false, 442), (4, 179, 24, false, 443), (9, 82, 58, false, 444), (4, 185, 6, false, 448), (0, 40, 7, false, 452), (0, 49, 22, false, 456), (0, 56, 25, false, 457), (0, 45, 9, false, 458), (0, 63, 10, false, 461), (0, 66, 23, false, 465), (0, 73, 1, false, 466), (4, 192, 8, false, 467), (9, 86, 59, false, 471), (9, 90, 60, false, 477), (9, 94, 61, false, 481), (9, 98, 62, false, 485), (4, 202, 38, false, 489), (3, 59, 129, false, 493), (4, 205, 39, false, 494), (4, 208, 66, false, 498), (4, 211, 40, false, 502), (9, 12, 77, false, 508), (5, 56, 78, false, 512), (9, 17, 86, false, 613), (5, 85, 79, false, 617), (9, 22, 87, false, 620), (9, 26, 91, false, 624), (5, 117, 90, false, 628), (5, 107, 88, false, 632), (5, 92, 85, false, 636), (5, 113, 89, false, 640), (5, 120, 92, false, 644), (5, 123, 94, false, 648), (5, 79, 83, false, 652), (5, 71, 82, false, 655), (5, 63, 80, false, 658), (5, 67, 81, false, 661), (5, 129, 93, false, 664), (9, 30, 95, false, 668), (9, 34, 96, false, 672), (9, 38, 98, false, 676), (5, 133, 97, false, 680), (9, 42, 99, false, 684), (9, 46, 100, false, 688), (9, 51, 101, false, 692), (9, 55, 102, false, 696), (9, 59, 103, false, 700), (9, 63, 104, false, 704), (9, 68, 110, false, 708), (5, 145, 108, false, 712), (5, 149, 109, false, 715), (5, 152, 106, false, 718), (5, 136, 84, false, 722), (5, 142, 105, false, 726), (9, 73, 112, false, 730), (5, 162, 107, false, 735), (5, 167, 111, false, 739), (9, 77, 113, false, 744), (9, 81, 116, false, 748), (5, 172, 114, false, 752), (9, 85, 121, false, 756), (5, 196, 120, false, 760), (5, 190, 119, false, 764), (5, 187, 117, false, 768), (5, 193, 118, false, 772), (9, 89, 122, false, 776), (9, 93, 123, false, 782), (9, 97, 124, false, 786), (9, 101, 128, false, 790), (5, 203, 126, false, 794), (5, 206, 125, false, 798), (5, 209, 115, false, 802), (5, 212, 127, false, 806)]
/-- links of Object's constructor -/
def mvOb : List (Nat × Nat × Nat) := [(4, 3, 15), (3, 3, 23), (1, 3, 59), (2, 3, 65), (0, 3, 128), (5, 1, 511)]
/-- classes by link -/
def mvN : List (Nat × Nat × Nat × Nat) := [(9, 7, 4, 10), (4, 9, 3, 18), (4, 34, 1, 54), (1, 15, 2, 60), (4, 41, 0, 123), (0, 9, 2, 129), (4, 48, 2, 152), (9, 10, 5, 506)]
/-- constants -/
def mvK : List (Nat × Nat × Int32 × Nat) := [(7, 265, (1431655765), 257), (7, 266, (858993459), 258), (7, 267, (252645135), 259), (4, 150, (-1000000), 410), (1, 84, (-2000000), 431), (4, 172, (-2000000), 440), (5, 166, (-1000000), 734), (5, 171, (-2000000), 743)]
def mvKl : List (Nat × Nat × Int64 × Nat) := [(4, 195, (-999999), 475), (4, 197, (999999), 476), (5, 199, (-999999), 780), (5, 201, (999999), 781)]
/-- static arrays by link -/
def mvS : List (Nat × Nat × Nat × Nat) := [(6, 9, 0, 249), (6, 15, 1, 359)]
/-- a field: 0 int, 1 boolean, 2 a reference; final -/
def mvFt : List (List (Nat × Bool)) := [[(2, true), (2, true), (2, true), (2, true), (0, false), (0, false)], [(2, true), (2, true), (2, true), (0, false), (0, false), (0, false), (0, false), (0, false), (0, false), (0, false)], [(0, false), (0, false), (0, false), (0, false), (0, false)], [(2, true), (2, true), (2, true), (0, false), (0, false), (0, false), (0, false)], [(2, true), (2, true), (2, true), (2, true), (2, true), (2, true), (2, true), (2, true), (2, true), (0, false), (0, false), (0, false)], [(0, false), (2, true), (2, true), (0, false), (2, true), (2, true), (2, true), (0, false), (2, true), (0, false), (2, true), (2, true), (1, false), (0, false), (0, false), (0, false), (0, false), (0, false), (0, false), (2, true), (2, true), (2, true), (2, true), (0, false), (0, false), (2, true), (0, false), (0, false), (0, false), (0, false), (2, true), (2, true)]]
