def npv : Nat := 39
def yOf (k : Nat) : MethodName := mvY.getD k ⟨"", "", ""⟩
def ownN (o : Nat) : String := mvOwn.getD o ""
def gT : List Cond := lw_tbl.filter goodWord
theorem gT_in {w : Cond} (h : w ∈ lw_tbl) (g : goodWord w = true) : w ∈ gT := List.mem_filter.mpr ⟨h, g⟩
theorem gT_goodIn {ws : List Cond} (h : ∀ w ∈ ws, w ∈ gT) : GoodIn gT ws := fun w hw => ⟨h w hw, good_of_word (List.mem_filter.mp (h w hw)).2⟩
def wsK (k : Nat) : List Cond := .code (yOf k) (bOf k) (mlOf k) (rtOf k) :: gT
def chk (w : Cond) (i : Nat) : Bool := decide (lw_tbl[i]? = some w) && goodWord w
theorem chk_in {w : Cond} {i : Nat} (h : chk w i = true) : w ∈ gT := by
  simp only [chk, Bool.and_eq_true, decide_eq_true_eq] at h
  exact gT_in (List.mem_of_getElem? h.1) h.2
/-- what the tables say of method k -/
def mwOK (k : Nat) : Prop := (Cond.code (yOf k) (bOf k) (mlOf k) (rtOf k)) ∈ gT ∧ (if stOf k then Cond.static (yOf k) else Cond.instanceMethod (yOf k)) ∈ gT ∧ (isInit k = false → stOf k = false → (Cond.selects (yOf k).cls (yOf k) (yOf k)) ∈ gT) ∧ (Cond.initialized (yOf k).cls) ∈ gT ∧ plainName (yOf k).cls = true ∧ ((yOf k).cls ≠ "java/lang/invoke/MethodHandle" ∧ (yOf k).cls ≠ "java/lang/invoke/VarHandle" ∧ (parseMethodDescriptor (yOf k).desc).map (fun d => d.parameters.length) = some (if stOf k then naOf k else naOf k - 1)) ∧ ((yOf k).cls = ownN (oOf k) ∧ (isInit k = true → (yOf k).name = "<init>") ∧ mlOf k ≤ 40 ∧ naOf k ≤ mlOf k ∧ (stOf k = false → 1 ≤ naOf k) ∧ (isInit k = true → rtOf k = none))
theorem mwOK_mk {k n : Nat} {y : MethodName} (hy : yOf k = y) (h1 : (Cond.code y (bOf k) (mlOf k) (rtOf k)) ∈ gT) (h2 : (if stOf k then Cond.static y else Cond.instanceMethod y) ∈ gT) (h3 : isInit k = false → stOf k = false → (Cond.selects y.cls y y) ∈ gT) (h4 : (Cond.initialized y.cls) ∈ gT) (h5 : plainName y.cls = true) (h6 : y.cls ≠ "java/lang/invoke/MethodHandle" ∧ y.cls ≠ "java/lang/invoke/VarHandle") (h7 : (parseMethodDescriptor y.desc).map (fun d => d.parameters.length) = some n) (h8 : (if stOf k then naOf k else naOf k - 1) = n) (h9 : y.cls = ownN (oOf k) ∧ (isInit k = true → y.name = "<init>") ∧ mlOf k ≤ 40 ∧ naOf k ≤ mlOf k ∧ (stOf k = false → 1 ≤ naOf k) ∧ (isInit k = true → rtOf k = none)) : mwOK k := by
  subst hy
  exact ⟨h1, h2, h3, h4, h5, ⟨h6.1, h6.2, by rw [h7, h8]⟩, h9⟩
theorem pmd_0 : (parseMethodDescriptor "(I)Z").map (fun d => d.parameters.length) = some 1 := by decide +kernel
theorem pmd_1 : (parseMethodDescriptor "(II)I").map (fun d => d.parameters.length) = some 2 := by decide +kernel
theorem pmd_2 : (parseMethodDescriptor "(I)I").map (fun d => d.parameters.length) = some 1 := by decide +kernel
theorem pmd_3 : (parseMethodDescriptor "(II)Z").map (fun d => d.parameters.length) = some 2 := by decide +kernel
theorem pmd_4 : (parseMethodDescriptor "()V").map (fun d => d.parameters.length) = some 0 := by decide +kernel
theorem pmd_5 : (parseMethodDescriptor "(LEvenWords$Wire;I)V").map (fun d => d.parameters.length) = some 2 := by decide +kernel
theorem pmd_6 : (parseMethodDescriptor "(LEvenWords$Orders;II)V").map (fun d => d.parameters.length) = some 3 := by decide +kernel
theorem pmd_7 : (parseMethodDescriptor "(I)V").map (fun d => d.parameters.length) = some 1 := by decide +kernel
theorem pmd_8 : (parseMethodDescriptor "(LEvenWords$Wire;II)V").map (fun d => d.parameters.length) = some 3 := by decide +kernel
theorem pmd_9 : (parseMethodDescriptor "()I").map (fun d => d.parameters.length) = some 0 := by decide +kernel
theorem pmd_10 : (parseMethodDescriptor "(LEvenWords$Walk;)V").map (fun d => d.parameters.length) = some 1 := by decide +kernel
theorem pmd_11 : (parseMethodDescriptor "(LEvenWords$Wire;LEvenWords$Wire;)V").map (fun d => d.parameters.length) = some 2 := by decide +kernel
theorem pmd_12 : (parseMethodDescriptor "(IIII)I").map (fun d => d.parameters.length) = some 4 := by decide +kernel
theorem pmd_13 : (parseMethodDescriptor "(III)I").map (fun d => d.parameters.length) = some 3 := by decide +kernel
theorem pmd_14 : (parseMethodDescriptor "(III)Z").map (fun d => d.parameters.length) = some 3 := by decide +kernel
theorem pmd_15 : (parseMethodDescriptor "(Z)I").map (fun d => d.parameters.length) = some 1 := by decide +kernel
theorem pmd_16 : (parseMethodDescriptor "(III)V").map (fun d => d.parameters.length) = some 3 := by decide +kernel
theorem pmd_17 : (parseMethodDescriptor "(II)V").map (fun d => d.parameters.length) = some 2 := by decide +kernel
theorem pmd_18 : (parseMethodDescriptor "([I)Z").map (fun d => d.parameters.length) = some 1 := by decide +kernel
theorem mw_0 : mwOK 0 := by
  refine mwOK_mk (y := (⟨"EvenWords$Forms", "isKind", "(I)Z"⟩ : MethodName)) (n := 1) rfl ?_ ?_ ?_ ?_ (by decide +kernel) (by decide +kernel) pmd_0 rfl (by decide +kernel)
  · exact chk_in (i := 357) (by decide +kernel)
  · exact chk_in (i := 356) (by decide +kernel)
  · exact fun h1 h2 => absurd h2 (by decide +kernel)
  · exact chk_in (i := 46) (by decide +kernel)
theorem mw_1 : mwOK 1 := by
  refine mwOK_mk (y := (⟨"EvenWords$Forms", "formDue", "(II)I"⟩ : MethodName)) (n := 2) rfl ?_ ?_ ?_ ?_ (by decide +kernel) (by decide +kernel) pmd_1 rfl (by decide +kernel)
  · exact chk_in (i := 287) (by decide +kernel)
  · exact chk_in (i := 286) (by decide +kernel)
  · exact fun h1 h2 => absurd h2 (by decide +kernel)
  · exact chk_in (i := 46) (by decide +kernel)
theorem mw_2 : mwOK 2 := by
  refine mwOK_mk (y := (⟨"EvenWords$Forms", "meaning", "(I)I"⟩ : MethodName)) (n := 1) rfl ?_ ?_ ?_ ?_ (by decide +kernel) (by decide +kernel) pmd_2 rfl (by decide +kernel)
  · exact chk_in (i := 397) (by decide +kernel)
  · exact chk_in (i := 396) (by decide +kernel)
  · exact fun h1 h2 => absurd h2 (by decide +kernel)
  · exact chk_in (i := 46) (by decide +kernel)
theorem mw_3 : mwOK 3 := by
  refine mwOK_mk (y := (⟨"EvenWords$Forms", "isRight", "(II)Z"⟩ : MethodName)) (n := 2) rfl ?_ ?_ ?_ ?_ (by decide +kernel) (by decide +kernel) pmd_3 rfl (by decide +kernel)
  · exact chk_in (i := 408) (by decide +kernel)
  · exact chk_in (i := 407) (by decide +kernel)
  · exact fun h1 h2 => absurd h2 (by decide +kernel)
  · exact chk_in (i := 46) (by decide +kernel)
theorem mw_4 : mwOK 4 := by
  refine mwOK_mk (y := (⟨"EvenWords$Forms", "sumBehind", "(II)I"⟩ : MethodName)) (n := 2) rfl ?_ ?_ ?_ ?_ (by decide +kernel) (by decide +kernel) pmd_1 rfl (by decide +kernel)
  · exact chk_in (i := 292) (by decide +kernel)
  · exact chk_in (i := 291) (by decide +kernel)
  · exact fun h1 h2 => absurd h2 (by decide +kernel)
  · exact chk_in (i := 46) (by decide +kernel)
theorem mw_5 : mwOK 5 := by
  refine mwOK_mk (y := (⟨"EvenWords$Orders", "<init>", "()V"⟩ : MethodName)) (n := 0) rfl ?_ ?_ ?_ ?_ (by decide +kernel) (by decide +kernel) pmd_4 rfl (by decide +kernel)
  · exact chk_in (i := 166) (by decide +kernel)
  · exact chk_in (i := 165) (by decide +kernel)
  · exact fun h1 h2 => absurd h1 (by decide +kernel)
  · exact chk_in (i := 44) (by decide +kernel)
theorem mw_6 : mwOK 6 := by
  refine mwOK_mk (y := (⟨"EvenWords$Orders", "search", "(LEvenWords$Wire;I)V"⟩ : MethodName)) (n := 2) rfl ?_ ?_ ?_ ?_ (by decide +kernel) (by decide +kernel) pmd_5 rfl (by decide +kernel)
  · exact chk_in (i := 490) (by decide +kernel)
  · exact chk_in (i := 488) (by decide +kernel)
  · exact fun _ _ => chk_in (i := 489) (by decide +kernel)
  · exact chk_in (i := 44) (by decide +kernel)
theorem mw_7 : mwOK 7 := by
  refine mwOK_mk (y := (⟨"EvenWords$Orders", "walkAhead", "(LEvenWords$Wire;I)V"⟩ : MethodName)) (n := 2) rfl ?_ ?_ ?_ ?_ (by decide +kernel) (by decide +kernel) pmd_5 rfl (by decide +kernel)
  · exact chk_in (i := 494) (by decide +kernel)
  · exact chk_in (i := 493) (by decide +kernel)
  · exact fun _ _ => chk_in (i := 13) (by decide +kernel)
  · exact chk_in (i := 44) (by decide +kernel)
theorem mw_8 : mwOK 8 := by
  refine mwOK_mk (y := (⟨"EvenWords$Orders", "bestAt", "(I)I"⟩ : MethodName)) (n := 1) rfl ?_ ?_ ?_ ?_ (by decide +kernel) (by decide +kernel) pmd_2 rfl (by decide +kernel)
  · exact chk_in (i := 509) (by decide +kernel)
  · exact chk_in (i := 507) (by decide +kernel)
  · exact fun _ _ => chk_in (i := 508) (by decide +kernel)
  · exact chk_in (i := 44) (by decide +kernel)
theorem mw_9 : mwOK 9 := by
  refine mwOK_mk (y := (⟨"EvenWords$Orders", "arrange", "(LEvenWords$Orders;II)V"⟩ : MethodName)) (n := 3) rfl ?_ ?_ ?_ ?_ (by decide +kernel) (by decide +kernel) pmd_6 rfl (by decide +kernel)
  · exact chk_in (i := 499) (by decide +kernel)
  · exact chk_in (i := 498) (by decide +kernel)
  · exact fun h1 h2 => absurd h2 (by decide +kernel)
  · exact chk_in (i := 44) (by decide +kernel)
theorem mw_10 : mwOK 10 := by
  refine mwOK_mk (y := (⟨"EvenWords$Orders", "settle", "(I)V"⟩ : MethodName)) (n := 1) rfl ?_ ?_ ?_ ?_ (by decide +kernel) (by decide +kernel) pmd_7 rfl (by decide +kernel)
  · exact chk_in (i := 503) (by decide +kernel)
  · exact chk_in (i := 502) (by decide +kernel)
  · exact fun _ _ => chk_in (i := 14) (by decide +kernel)
  · exact chk_in (i := 44) (by decide +kernel)
theorem mw_11 : mwOK 11 := by
  refine mwOK_mk (y := (⟨"EvenWords$Reading", "<init>", "()V"⟩ : MethodName)) (n := 0) rfl ?_ ?_ ?_ ?_ (by decide +kernel) (by decide +kernel) pmd_4 rfl (by decide +kernel)
  · exact chk_in (i := 97) (by decide +kernel)
  · exact chk_in (i := 96) (by decide +kernel)
  · exact fun h1 h2 => absurd h1 (by decide +kernel)
  · exact chk_in (i := 42) (by decide +kernel)
theorem mw_12 : mwOK 12 := by
  refine mwOK_mk (y := (⟨"EvenWords$Reading", "load", "(LEvenWords$Wire;II)V"⟩ : MethodName)) (n := 3) rfl ?_ ?_ ?_ ?_ (by decide +kernel) (by decide +kernel) pmd_8 rfl (by decide +kernel)
  · exact chk_in (i := 388) (by decide +kernel)
  · exact chk_in (i := 386) (by decide +kernel)
  · exact fun _ _ => chk_in (i := 387) (by decide +kernel)
  · exact chk_in (i := 42) (by decide +kernel)
theorem mw_13 : mwOK 13 := by
  refine mwOK_mk (y := (⟨"EvenWords$Reading", "pieceAt", "(I)I"⟩ : MethodName)) (n := 1) rfl ?_ ?_ ?_ ?_ (by decide +kernel) (by decide +kernel) pmd_2 rfl (by decide +kernel)
  · exact chk_in (i := 394) (by decide +kernel)
  · exact chk_in (i := 392) (by decide +kernel)
  · exact fun _ _ => chk_in (i := 393) (by decide +kernel)
  · exact chk_in (i := 42) (by decide +kernel)
theorem mw_14 : mwOK 14 := by
  refine mwOK_mk (y := (⟨"EvenWords$Reading", "sumAhead", "(I)I"⟩ : MethodName)) (n := 1) rfl ?_ ?_ ?_ ?_ (by decide +kernel) (by decide +kernel) pmd_2 rfl (by decide +kernel)
  · exact chk_in (i := 403) (by decide +kernel)
  · exact chk_in (i := 401) (by decide +kernel)
  · exact fun _ _ => chk_in (i := 402) (by decide +kernel)
  · exact chk_in (i := 42) (by decide +kernel)
theorem mw_15 : mwOK 15 := by
  refine mwOK_mk (y := (⟨"EvenWords$Reading", "sumBehind", "(I)I"⟩ : MethodName)) (n := 1) rfl ?_ ?_ ?_ ?_ (by decide +kernel) (by decide +kernel) pmd_2 rfl (by decide +kernel)
  · exact chk_in (i := 440) (by decide +kernel)
  · exact chk_in (i := 438) (by decide +kernel)
  · exact fun _ _ => chk_in (i := 439) (by decide +kernel)
  · exact chk_in (i := 42) (by decide +kernel)
theorem mw_16 : mwOK 16 := by
  refine mwOK_mk (y := (⟨"EvenWords$Reading", "breachesAt", "(I)I"⟩ : MethodName)) (n := 1) rfl ?_ ?_ ?_ ?_ (by decide +kernel) (by decide +kernel) pmd_2 rfl (by decide +kernel)
  · exact chk_in (i := 414) (by decide +kernel)
  · exact chk_in (i := 412) (by decide +kernel)
  · exact fun _ _ => chk_in (i := 413) (by decide +kernel)
  · exact chk_in (i := 42) (by decide +kernel)
theorem mw_17 : mwOK 17 := by
  refine mwOK_mk (y := (⟨"EvenWords$Reading", "check", "()V"⟩ : MethodName)) (n := 0) rfl ?_ ?_ ?_ ?_ (by decide +kernel) (by decide +kernel) pmd_4 rfl (by decide +kernel)
  · exact chk_in (i := 453) (by decide +kernel)
  · exact chk_in (i := 451) (by decide +kernel)
  · exact fun _ _ => chk_in (i := 452) (by decide +kernel)
  · exact chk_in (i := 42) (by decide +kernel)
theorem mw_18 : mwOK 18 := by
  refine mwOK_mk (y := (⟨"EvenWords$Reading", "blame", "()V"⟩ : MethodName)) (n := 0) rfl ?_ ?_ ?_ ?_ (by decide +kernel) (by decide +kernel) pmd_4 rfl (by decide +kernel)
  · exact chk_in (i := 457) (by decide +kernel)
  · exact chk_in (i := 455) (by decide +kernel)
  · exact fun _ _ => chk_in (i := 456) (by decide +kernel)
  · exact chk_in (i := 42) (by decide +kernel)
theorem mw_19 : mwOK 19 := by
  refine mwOK_mk (y := (⟨"EvenWords$Reading", "isRightTurned", "(II)Z"⟩ : MethodName)) (n := 2) rfl ?_ ?_ ?_ ?_ (by decide +kernel) (by decide +kernel) pmd_3 rfl (by decide +kernel)
  · exact chk_in (i := 461) (by decide +kernel)
  · exact chk_in (i := 460) (by decide +kernel)
  · exact fun _ _ => chk_in (i := 12) (by decide +kernel)
  · exact chk_in (i := 42) (by decide +kernel)
theorem mw_20 : mwOK 20 := by
  refine mwOK_mk (y := (⟨"EvenWords$Reading", "late", "()I"⟩ : MethodName)) (n := 0) rfl ?_ ?_ ?_ ?_ (by decide +kernel) (by decide +kernel) pmd_9 rfl (by decide +kernel)
  · exact chk_in (i := 469) (by decide +kernel)
  · exact chk_in (i := 467) (by decide +kernel)
  · exact fun _ _ => chk_in (i := 468) (by decide +kernel)
  · exact chk_in (i := 42) (by decide +kernel)
theorem mw_21 : mwOK 21 := by
  refine mwOK_mk (y := (⟨"EvenWords$Walk", "<init>", "()V"⟩ : MethodName)) (n := 0) rfl ?_ ?_ ?_ ?_ (by decide +kernel) (by decide +kernel) pmd_4 rfl (by decide +kernel)
  · exact chk_in (i := 103) (by decide +kernel)
  · exact chk_in (i := 102) (by decide +kernel)
  · exact fun h1 h2 => absurd h1 (by decide +kernel)
  · exact chk_in (i := 43) (by decide +kernel)
theorem mw_22 : mwOK 22 := by
  refine mwOK_mk (y := (⟨"EvenWords$Walk", "start", "(I)V"⟩ : MethodName)) (n := 1) rfl ?_ ?_ ?_ ?_ (by decide +kernel) (by decide +kernel) pmd_7 rfl (by decide +kernel)
  · exact chk_in (i := 418) (by decide +kernel)
  · exact chk_in (i := 416) (by decide +kernel)
  · exact fun _ _ => chk_in (i := 417) (by decide +kernel)
  · exact chk_in (i := 43) (by decide +kernel)
theorem mw_23 : mwOK 23 := by
  refine mwOK_mk (y := (⟨"EvenWords$Walk", "become", "(LEvenWords$Walk;)V"⟩ : MethodName)) (n := 1) rfl ?_ ?_ ?_ ?_ (by decide +kernel) (by decide +kernel) pmd_10 rfl (by decide +kernel)
  · exact chk_in (i := 465) (by decide +kernel)
  · exact chk_in (i := 463) (by decide +kernel)
  · exact fun _ _ => chk_in (i := 464) (by decide +kernel)
  · exact chk_in (i := 43) (by decide +kernel)
theorem mw_24 : mwOK 24 := by
  refine mwOK_mk (y := (⟨"EvenWords$Walk", "step", "(I)V"⟩ : MethodName)) (n := 1) rfl ?_ ?_ ?_ ?_ (by decide +kernel) (by decide +kernel) pmd_7 rfl (by decide +kernel)
  · exact chk_in (i := 432) (by decide +kernel)
  · exact chk_in (i := 430) (by decide +kernel)
  · exact fun _ _ => chk_in (i := 431) (by decide +kernel)
  · exact chk_in (i := 43) (by decide +kernel)
theorem mw_25 : mwOK 25 := by
  refine mwOK_mk (y := (⟨"EvenWords$Walk", "take", "(I)I"⟩ : MethodName)) (n := 1) rfl ?_ ?_ ?_ ?_ (by decide +kernel) (by decide +kernel) pmd_2 rfl (by decide +kernel)
  · exact chk_in (i := 422) (by decide +kernel)
  · exact chk_in (i := 420) (by decide +kernel)
  · exact fun _ _ => chk_in (i := 421) (by decide +kernel)
  · exact chk_in (i := 43) (by decide +kernel)
theorem mw_26 : mwOK 26 := by
  refine mwOK_mk (y := (⟨"EvenWords$Walk", "formBreach", "(I)I"⟩ : MethodName)) (n := 1) rfl ?_ ?_ ?_ ?_ (by decide +kernel) (by decide +kernel) pmd_2 rfl (by decide +kernel)
  · exact chk_in (i := 426) (by decide +kernel)
  · exact chk_in (i := 425) (by decide +kernel)
  · exact fun _ _ => chk_in (i := 11) (by decide +kernel)
  · exact chk_in (i := 43) (by decide +kernel)
theorem mw_27 : mwOK 27 := by
  refine mwOK_mk (y := (⟨"EvenWords$Wire", "<init>", "()V"⟩ : MethodName)) (n := 0) rfl ?_ ?_ ?_ ?_ (by decide +kernel) (by decide +kernel) pmd_4 rfl (by decide +kernel)
  · exact chk_in (i := 61) (by decide +kernel)
  · exact chk_in (i := 60) (by decide +kernel)
  · exact fun h1 h2 => absurd h1 (by decide +kernel)
  · exact chk_in (i := 41) (by decide +kernel)
theorem mw_28 : mwOK 28 := by
  refine mwOK_mk (y := (⟨"EvenWords$Wire", "empty", "()V"⟩ : MethodName)) (n := 0) rfl ?_ ?_ ?_ ?_ (by decide +kernel) (by decide +kernel) pmd_4 rfl (by decide +kernel)
  · exact chk_in (i := 346) (by decide +kernel)
  · exact chk_in (i := 344) (by decide +kernel)
  · exact fun _ _ => chk_in (i := 345) (by decide +kernel)
  · exact chk_in (i := 41) (by decide +kernel)
theorem mw_29 : mwOK 29 := by
  refine mwOK_mk (y := (⟨"EvenWords$Wire", "carry", "(LEvenWords$Wire;LEvenWords$Wire;)V"⟩ : MethodName)) (n := 2) rfl ?_ ?_ ?_ ?_ (by decide +kernel) (by decide +kernel) pmd_11 rfl (by decide +kernel)
  · exact chk_in (i := 280) (by decide +kernel)
  · exact chk_in (i := 279) (by decide +kernel)
  · exact fun h1 h2 => absurd h2 (by decide +kernel)
  · exact chk_in (i := 41) (by decide +kernel)
theorem mw_30 : mwOK 30 := by
  refine mwOK_mk (y := (⟨"EvenWords$Wire", "send", "(I)I"⟩ : MethodName)) (n := 1) rfl ?_ ?_ ?_ ?_ (by decide +kernel) (by decide +kernel) pmd_2 rfl (by decide +kernel)
  · exact chk_in (i := 284) (by decide +kernel)
  · exact chk_in (i := 282) (by decide +kernel)
  · exact fun _ _ => chk_in (i := 283) (by decide +kernel)
  · exact chk_in (i := 41) (by decide +kernel)
theorem mw_31 : mwOK 31 := by
  refine mwOK_mk (y := (⟨"EvenWords$Wire", "noteMark", "(I)V"⟩ : MethodName)) (n := 1) rfl ?_ ?_ ?_ ?_ (by decide +kernel) (by decide +kernel) pmd_7 rfl (by decide +kernel)
  · exact chk_in (i := 302) (by decide +kernel)
  · exact chk_in (i := 301) (by decide +kernel)
  · exact fun _ _ => chk_in (i := 9) (by decide +kernel)
  · exact chk_in (i := 41) (by decide +kernel)
theorem mw_32 : mwOK 32 := by
  refine mwOK_mk (y := (⟨"EvenWords$Wire", "markSentLately", "(I)I"⟩ : MethodName)) (n := 1) rfl ?_ ?_ ?_ ?_ (by decide +kernel) (by decide +kernel) pmd_2 rfl (by decide +kernel)
  · exact chk_in (i := 377) (by decide +kernel)
  · exact chk_in (i := 375) (by decide +kernel)
  · exact fun _ _ => chk_in (i := 376) (by decide +kernel)
  · exact chk_in (i := 41) (by decide +kernel)
theorem mw_33 : mwOK 33 := by
  refine mwOK_mk (y := (⟨"EvenWords$Wire", "bits", "()I"⟩ : MethodName)) (n := 0) rfl ?_ ?_ ?_ ?_ (by decide +kernel) (by decide +kernel) pmd_9 rfl (by decide +kernel)
  · exact chk_in (i := 326) (by decide +kernel)
  · exact chk_in (i := 324) (by decide +kernel)
  · exact fun _ _ => chk_in (i := 325) (by decide +kernel)
  · exact chk_in (i := 41) (by decide +kernel)
theorem mw_34 : mwOK 34 := by
  refine mwOK_mk (y := (⟨"EvenWords$Wire", "hasBit", "(I)Z"⟩ : MethodName)) (n := 1) rfl ?_ ?_ ?_ ?_ (by decide +kernel) (by decide +kernel) pmd_0 rfl (by decide +kernel)
  · exact chk_in (i := 322) (by decide +kernel)
  · exact chk_in (i := 320) (by decide +kernel)
  · exact fun _ _ => chk_in (i := 321) (by decide +kernel)
  · exact chk_in (i := 41) (by decide +kernel)
theorem mw_35 : mwOK 35 := by
  refine mwOK_mk (y := (⟨"EvenWords$Wire", "bitAt", "(I)I"⟩ : MethodName)) (n := 1) rfl ?_ ?_ ?_ ?_ (by decide +kernel) (by decide +kernel) pmd_2 rfl (by decide +kernel)
  · exact chk_in (i := 338) (by decide +kernel)
  · exact chk_in (i := 336) (by decide +kernel)
  · exact fun _ _ => chk_in (i := 337) (by decide +kernel)
  · exact chk_in (i := 41) (by decide +kernel)
theorem mw_36 : mwOK 36 := by
  refine mwOK_mk (y := (⟨"EvenWords$Wire", "turn", "(I)V"⟩ : MethodName)) (n := 1) rfl ?_ ?_ ?_ ?_ (by decide +kernel) (by decide +kernel) pmd_7 rfl (by decide +kernel)
  · exact chk_in (i := 330) (by decide +kernel)
  · exact chk_in (i := 328) (by decide +kernel)
  · exact fun _ _ => chk_in (i := 329) (by decide +kernel)
  · exact chk_in (i := 41) (by decide +kernel)
theorem mw_37 : mwOK 37 := by
  refine mwOK_mk (y := (⟨"EvenWords$Wire", "placeOf", "(I)I"⟩ : MethodName)) (n := 1) rfl ?_ ?_ ?_ ?_ (by decide +kernel) (by decide +kernel) pmd_2 rfl (by decide +kernel)
  · exact chk_in (i := 334) (by decide +kernel)
  · exact chk_in (i := 333) (by decide +kernel)
  · exact fun h1 h2 => absurd h2 (by decide +kernel)
  · exact chk_in (i := 41) (by decide +kernel)
theorem mw_38 : mwOK 38 := by
  refine mwOK_mk (y := (⟨"EvenWords$Wire", "ones", "()I"⟩ : MethodName)) (n := 0) rfl ?_ ?_ ?_ ?_ (by decide +kernel) (by decide +kernel) pmd_9 rfl (by decide +kernel)
  · exact chk_in (i := 531) (by decide +kernel)
  · exact chk_in (i := 529) (by decide +kernel)
  · exact fun _ _ => chk_in (i := 530) (by decide +kernel)
  · exact chk_in (i := 41) (by decide +kernel)
theorem mw_39 : mwOK 39 := by
  refine mwOK_mk (y := (⟨"EvenWords$Wire", "turned", "()I"⟩ : MethodName)) (n := 0) rfl ?_ ?_ ?_ ?_ (by decide +kernel) (by decide +kernel) pmd_9 rfl (by decide +kernel)
  · exact chk_in (i := 536) (by decide +kernel)
  · exact chk_in (i := 534) (by decide +kernel)
  · exact fun _ _ => chk_in (i := 535) (by decide +kernel)
  · exact chk_in (i := 41) (by decide +kernel)
theorem mw_40 : mwOK 40 := by
  refine mwOK_mk (y := (⟨"EvenWords$Wire", "marksSent", "()I"⟩ : MethodName)) (n := 0) rfl ?_ ?_ ?_ ?_ (by decide +kernel) (by decide +kernel) pmd_9 rfl (by decide +kernel)
  · exact chk_in (i := 544) (by decide +kernel)
  · exact chk_in (i := 542) (by decide +kernel)
  · exact fun _ _ => chk_in (i := 543) (by decide +kernel)
  · exact chk_in (i := 41) (by decide +kernel)
theorem mw_41 : mwOK 41 := by
  refine mwOK_mk (y := (⟨"EvenWords", "<init>", "()V"⟩ : MethodName)) (n := 0) rfl ?_ ?_ ?_ ?_ (by decide +kernel) (by decide +kernel) pmd_4 rfl (by decide +kernel)
  · exact chk_in (i := 53) (by decide +kernel)
  · exact chk_in (i := 52) (by decide +kernel)
  · exact fun h1 h2 => absurd h1 (by decide +kernel)
  · exact chk_in (i := 40) (by decide +kernel)
theorem mw_42 : mwOK 42 := by
  refine mwOK_mk (y := (⟨"EvenWords", "type", "(I)I"⟩ : MethodName)) (n := 1) rfl ?_ ?_ ?_ ?_ (by decide +kernel) (by decide +kernel) pmd_2 rfl (by decide +kernel)
  · exact chk_in (i := 233) (by decide +kernel)
  · exact chk_in (i := 231) (by decide +kernel)
  · exact fun _ _ => chk_in (i := 232) (by decide +kernel)
  · exact chk_in (i := 40) (by decide +kernel)
theorem mw_43 : mwOK 43 := by
  refine mwOK_mk (y := (⟨"EvenWords", "clear", "()I"⟩ : MethodName)) (n := 0) rfl ?_ ?_ ?_ ?_ (by decide +kernel) (by decide +kernel) pmd_9 rfl (by decide +kernel)
  · exact chk_in (i := 237) (by decide +kernel)
  · exact chk_in (i := 235) (by decide +kernel)
  · exact fun _ _ => chk_in (i := 236) (by decide +kernel)
  · exact chk_in (i := 40) (by decide +kernel)
theorem mw_44 : mwOK 44 := by
  refine mwOK_mk (y := (⟨"EvenWords", "tells", "()I"⟩ : MethodName)) (n := 0) rfl ?_ ?_ ?_ ?_ (by decide +kernel) (by decide +kernel) pmd_9 rfl (by decide +kernel)
  · exact chk_in (i := 241) (by decide +kernel)
  · exact chk_in (i := 239) (by decide +kernel)
  · exact fun _ _ => chk_in (i := 240) (by decide +kernel)
  · exact chk_in (i := 40) (by decide +kernel)
theorem mw_45 : mwOK 45 := by
  refine mwOK_mk (y := (⟨"EvenWords", "sends", "(I)I"⟩ : MethodName)) (n := 1) rfl ?_ ?_ ?_ ?_ (by decide +kernel) (by decide +kernel) pmd_2 rfl (by decide +kernel)
  · exact chk_in (i := 306) (by decide +kernel)
  · exact chk_in (i := 304) (by decide +kernel)
  · exact fun _ _ => chk_in (i := 305) (by decide +kernel)
  · exact chk_in (i := 40) (by decide +kernel)
theorem mw_46 : mwOK 46 := by
  refine mwOK_mk (y := (⟨"EvenWords", "marks", "(I)I"⟩ : MethodName)) (n := 1) rfl ?_ ?_ ?_ ?_ (by decide +kernel) (by decide +kernel) pmd_2 rfl (by decide +kernel)
  · exact chk_in (i := 314) (by decide +kernel)
  · exact chk_in (i := 312) (by decide +kernel)
  · exact fun _ _ => chk_in (i := 313) (by decide +kernel)
  · exact chk_in (i := 40) (by decide +kernel)
theorem mw_47 : mwOK 47 := by
  refine mwOK_mk (y := (⟨"EvenWords", "flips", "(I)I"⟩ : MethodName)) (n := 1) rfl ?_ ?_ ?_ ?_ (by decide +kernel) (by decide +kernel) pmd_2 rfl (by decide +kernel)
  · exact chk_in (i := 318) (by decide +kernel)
  · exact chk_in (i := 316) (by decide +kernel)
  · exact fun _ _ => chk_in (i := 317) (by decide +kernel)
  · exact chk_in (i := 40) (by decide +kernel)
theorem mw_48 : mwOK 48 := by
  refine mwOK_mk (y := (⟨"EvenWords", "clears", "()I"⟩ : MethodName)) (n := 0) rfl ?_ ?_ ?_ ?_ (by decide +kernel) (by decide +kernel) pmd_9 rfl (by decide +kernel)
  · exact chk_in (i := 342) (by decide +kernel)
  · exact chk_in (i := 340) (by decide +kernel)
  · exact fun _ _ => chk_in (i := 341) (by decide +kernel)
  · exact chk_in (i := 40) (by decide +kernel)
theorem mw_49 : mwOK 49 := by
  refine mwOK_mk (y := (⟨"EvenWords", "undo", "()I"⟩ : MethodName)) (n := 0) rfl ?_ ?_ ?_ ?_ (by decide +kernel) (by decide +kernel) pmd_9 rfl (by decide +kernel)
  · exact chk_in (i := 350) (by decide +kernel)
  · exact chk_in (i := 348) (by decide +kernel)
  · exact fun _ _ => chk_in (i := 349) (by decide +kernel)
  · exact chk_in (i := 40) (by decide +kernel)
theorem mw_50 : mwOK 50 := by
  refine mwOK_mk (y := (⟨"EvenWords", "form", "(II)I"⟩ : MethodName)) (n := 2) rfl ?_ ?_ ?_ ?_ (by decide +kernel) (by decide +kernel) pmd_1 rfl (by decide +kernel)
  · exact chk_in (i := 354) (by decide +kernel)
  · exact chk_in (i := 352) (by decide +kernel)
  · exact fun _ _ => chk_in (i := 353) (by decide +kernel)
  · exact chk_in (i := 40) (by decide +kernel)
theorem mw_51 : mwOK 51 := by
  refine mwOK_mk (y := (⟨"EvenWords", "bit", "(I)I"⟩ : MethodName)) (n := 1) rfl ?_ ?_ ?_ ?_ (by decide +kernel) (by decide +kernel) pmd_2 rfl (by decide +kernel)
  · exact chk_in (i := 365) (by decide +kernel)
  · exact chk_in (i := 363) (by decide +kernel)
  · exact fun _ _ => chk_in (i := 364) (by decide +kernel)
  · exact chk_in (i := 40) (by decide +kernel)
theorem mw_52 : mwOK 52 := by
  refine mwOK_mk (y := (⟨"EvenWords", "word", "(I)I"⟩ : MethodName)) (n := 1) rfl ?_ ?_ ?_ ?_ (by decide +kernel) (by decide +kernel) pmd_2 rfl (by decide +kernel)
  · exact chk_in (i := 369) (by decide +kernel)
  · exact chk_in (i := 367) (by decide +kernel)
  · exact fun _ _ => chk_in (i := 368) (by decide +kernel)
  · exact chk_in (i := 40) (by decide +kernel)
theorem mw_53 : mwOK 53 := by
  refine mwOK_mk (y := (⟨"EvenWords", "recent", "(I)I"⟩ : MethodName)) (n := 1) rfl ?_ ?_ ?_ ?_ (by decide +kernel) (by decide +kernel) pmd_2 rfl (by decide +kernel)
  · exact chk_in (i := 373) (by decide +kernel)
  · exact chk_in (i := 371) (by decide +kernel)
  · exact fun _ _ => chk_in (i := 372) (by decide +kernel)
  · exact chk_in (i := 40) (by decide +kernel)
theorem mw_54 : mwOK 54 := by
  refine mwOK_mk (y := (⟨"EvenWords", "piece", "(IIII)I"⟩ : MethodName)) (n := 4) rfl ?_ ?_ ?_ ?_ (by decide +kernel) (by decide +kernel) pmd_12 rfl (by decide +kernel)
  · exact chk_in (i := 381) (by decide +kernel)
  · exact chk_in (i := 379) (by decide +kernel)
  · exact fun _ _ => chk_in (i := 380) (by decide +kernel)
  · exact chk_in (i := 40) (by decide +kernel)
theorem mw_55 : mwOK 55 := by
  refine mwOK_mk (y := (⟨"EvenWords", "read", "(III)I"⟩ : MethodName)) (n := 3) rfl ?_ ?_ ?_ ?_ (by decide +kernel) (by decide +kernel) pmd_13 rfl (by decide +kernel)
  · exact chk_in (i := 448) (by decide +kernel)
  · exact chk_in (i := 446) (by decide +kernel)
  · exact fun _ _ => chk_in (i := 447) (by decide +kernel)
  · exact chk_in (i := 40) (by decide +kernel)
theorem mw_56 : mwOK 56 := by
  refine mwOK_mk (y := (⟨"EvenWords", "cuts", "(I)I"⟩ : MethodName)) (n := 1) rfl ?_ ?_ ?_ ?_ (by decide +kernel) (by decide +kernel) pmd_2 rfl (by decide +kernel)
  · exact chk_in (i := 474) (by decide +kernel)
  · exact chk_in (i := 472) (by decide +kernel)
  · exact fun _ _ => chk_in (i := 473) (by decide +kernel)
  · exact chk_in (i := 40) (by decide +kernel)
theorem mw_57 : mwOK 57 := by
  refine mwOK_mk (y := (⟨"EvenWords", "level", "(II)I"⟩ : MethodName)) (n := 2) rfl ?_ ?_ ?_ ?_ (by decide +kernel) (by decide +kernel) pmd_1 rfl (by decide +kernel)
  · exact chk_in (i := 478) (by decide +kernel)
  · exact chk_in (i := 476) (by decide +kernel)
  · exact fun _ _ => chk_in (i := 477) (by decide +kernel)
  · exact chk_in (i := 40) (by decide +kernel)
theorem mw_58 : mwOK 58 := by
  refine mwOK_mk (y := (⟨"EvenWords", "evenest", "(II)I"⟩ : MethodName)) (n := 2) rfl ?_ ?_ ?_ ?_ (by decide +kernel) (by decide +kernel) pmd_1 rfl (by decide +kernel)
  · exact chk_in (i := 486) (by decide +kernel)
  · exact chk_in (i := 484) (by decide +kernel)
  · exact fun _ _ => chk_in (i := 485) (by decide +kernel)
  · exact chk_in (i := 40) (by decide +kernel)
theorem mw_59 : mwOK 59 := by
  refine mwOK_mk (y := (⟨"EvenWords", "weight", "(I)I"⟩ : MethodName)) (n := 1) rfl ?_ ?_ ?_ ?_ (by decide +kernel) (by decide +kernel) pmd_2 rfl (by decide +kernel)
  · exact chk_in (i := 513) (by decide +kernel)
  · exact chk_in (i := 511) (by decide +kernel)
  · exact fun _ _ => chk_in (i := 512) (by decide +kernel)
  · exact chk_in (i := 40) (by decide +kernel)
theorem mw_60 : mwOK 60 := by
  refine mwOK_mk (y := (⟨"EvenWords", "keep", "(I)I"⟩ : MethodName)) (n := 1) rfl ?_ ?_ ?_ ?_ (by decide +kernel) (by decide +kernel) pmd_2 rfl (by decide +kernel)
  · exact chk_in (i := 519) (by decide +kernel)
  · exact chk_in (i := 517) (by decide +kernel)
  · exact fun _ _ => chk_in (i := 518) (by decide +kernel)
  · exact chk_in (i := 40) (by decide +kernel)
theorem mw_61 : mwOK 61 := by
  refine mwOK_mk (y := (⟨"EvenWords", "back", "(I)I"⟩ : MethodName)) (n := 1) rfl ?_ ?_ ?_ ?_ (by decide +kernel) (by decide +kernel) pmd_2 rfl (by decide +kernel)
  · exact chk_in (i := 523) (by decide +kernel)
  · exact chk_in (i := 521) (by decide +kernel)
  · exact fun _ _ => chk_in (i := 522) (by decide +kernel)
  · exact chk_in (i := 40) (by decide +kernel)
theorem mw_62 : mwOK 62 := by
  refine mwOK_mk (y := (⟨"EvenWords", "count", "(I)I"⟩ : MethodName)) (n := 1) rfl ?_ ?_ ?_ ?_ (by decide +kernel) (by decide +kernel) pmd_2 rfl (by decide +kernel)
  · exact chk_in (i := 527) (by decide +kernel)
  · exact chk_in (i := 525) (by decide +kernel)
  · exact fun _ _ => chk_in (i := 526) (by decide +kernel)
  · exact chk_in (i := 40) (by decide +kernel)
theorem mw_63 : mwOK 63 := by
  refine mwOK_mk (y := (⟨"EvenWords", "sendOne", "(I)I"⟩ : MethodName)) (n := 1) rfl ?_ ?_ ?_ ?_ (by decide +kernel) (by decide +kernel) pmd_2 rfl (by decide +kernel)
  · exact chk_in (i := 310) (by decide +kernel)
  · exact chk_in (i := 309) (by decide +kernel)
  · exact fun _ _ => chk_in (i := 10) (by decide +kernel)
  · exact chk_in (i := 40) (by decide +kernel)
theorem mw_64 : mwOK 64 := by
  refine mwOK_mk (y := (⟨"EvenWords", "remember", "()V"⟩ : MethodName)) (n := 0) rfl ?_ ?_ ?_ ?_ (by decide +kernel) (by decide +kernel) pmd_4 rfl (by decide +kernel)
  · exact chk_in (i := 273) (by decide +kernel)
  · exact chk_in (i := 272) (by decide +kernel)
  · exact fun _ _ => chk_in (i := 7) (by decide +kernel)
  · exact chk_in (i := 40) (by decide +kernel)
theorem mw_65 : mwOK 65 := by
  refine mwOK_mk (y := (⟨"EvenWords", "forgetOldest", "()V"⟩ : MethodName)) (n := 0) rfl ?_ ?_ ?_ ?_ (by decide +kernel) (by decide +kernel) pmd_4 rfl (by decide +kernel)
  · exact chk_in (i := 277) (by decide +kernel)
  · exact chk_in (i := 276) (by decide +kernel)
  · exact fun _ _ => chk_in (i := 8) (by decide +kernel)
  · exact chk_in (i := 40) (by decide +kernel)
theorem mw_66 : mwOK 66 := by
  refine mwOK_mk (y := (⟨"EvenWords", "longestRun", "()I"⟩ : MethodName)) (n := 0) rfl ?_ ?_ ?_ ?_ (by decide +kernel) (by decide +kernel) pmd_9 rfl (by decide +kernel)
  · exact chk_in (i := 540) (by decide +kernel)
  · exact chk_in (i := 539) (by decide +kernel)
  · exact fun _ _ => chk_in (i := 15) (by decide +kernel)
  · exact chk_in (i := 40) (by decide +kernel)
theorem mw_67 : mwOK 67 := by
  refine mwOK_mk (y := (⟨"EvenWords", "faultPlace", "()I"⟩ : MethodName)) (n := 0) rfl ?_ ?_ ?_ ?_ (by decide +kernel) (by decide +kernel) pmd_9 rfl (by decide +kernel)
  · exact chk_in (i := 245) (by decide +kernel)
  · exact chk_in (i := 244) (by decide +kernel)
  · exact fun _ _ => chk_in (i := 0) (by decide +kernel)
  · exact chk_in (i := 40) (by decide +kernel)
theorem mw_68 : mwOK 68 := by
  refine mwOK_mk (y := (⟨"EvenWords", "isTokenStart", "(I)Z"⟩ : MethodName)) (n := 1) rfl ?_ ?_ ?_ ?_ (by decide +kernel) (by decide +kernel) pmd_0 rfl (by decide +kernel)
  · exact chk_in (i := 249) (by decide +kernel)
  · exact chk_in (i := 248) (by decide +kernel)
  · exact fun _ _ => chk_in (i := 1) (by decide +kernel)
  · exact chk_in (i := 40) (by decide +kernel)
theorem mw_69 : mwOK 69 := by
  refine mwOK_mk (y := (⟨"EvenWords", "afterToken", "(II)I"⟩ : MethodName)) (n := 2) rfl ?_ ?_ ?_ ?_ (by decide +kernel) (by decide +kernel) pmd_1 rfl (by decide +kernel)
  · exact chk_in (i := 261) (by decide +kernel)
  · exact chk_in (i := 260) (by decide +kernel)
  · exact fun _ _ => chk_in (i := 4) (by decide +kernel)
  · exact chk_in (i := 40) (by decide +kernel)
theorem mw_70 : mwOK 70 := by
  refine mwOK_mk (y := (⟨"EvenWords", "afterNumber", "(III)I"⟩ : MethodName)) (n := 3) rfl ?_ ?_ ?_ ?_ (by decide +kernel) (by decide +kernel) pmd_13 rfl (by decide +kernel)
  · exact chk_in (i := 269) (by decide +kernel)
  · exact chk_in (i := 268) (by decide +kernel)
  · exact fun _ _ => chk_in (i := 6) (by decide +kernel)
  · exact chk_in (i := 40) (by decide +kernel)
theorem mw_71 : mwOK 71 := by
  refine mwOK_mk (y := (⟨"EvenWords", "numberAt", "(I)I"⟩ : MethodName)) (n := 1) rfl ?_ ?_ ?_ ?_ (by decide +kernel) (by decide +kernel) pmd_2 rfl (by decide +kernel)
  · exact chk_in (i := 265) (by decide +kernel)
  · exact chk_in (i := 264) (by decide +kernel)
  · exact fun _ _ => chk_in (i := 5) (by decide +kernel)
  · exact chk_in (i := 40) (by decide +kernel)
theorem mw_72 : mwOK 72 := by
  refine mwOK_mk (y := (⟨"EvenWords", "figureAt", "(I)I"⟩ : MethodName)) (n := 1) rfl ?_ ?_ ?_ ?_ (by decide +kernel) (by decide +kernel) pmd_2 rfl (by decide +kernel)
  · exact chk_in (i := 257) (by decide +kernel)
  · exact chk_in (i := 256) (by decide +kernel)
  · exact fun _ _ => chk_in (i := 3) (by decide +kernel)
  · exact chk_in (i := 40) (by decide +kernel)
theorem mw_73 : mwOK 73 := by
  refine mwOK_mk (y := (⟨"EvenWords", "letterAt", "(I)I"⟩ : MethodName)) (n := 1) rfl ?_ ?_ ?_ ?_ (by decide +kernel) (by decide +kernel) pmd_2 rfl (by decide +kernel)
  · exact chk_in (i := 253) (by decide +kernel)
  · exact chk_in (i := 252) (by decide +kernel)
  · exact fun _ _ => chk_in (i := 2) (by decide +kernel)
  · exact chk_in (i := 40) (by decide +kernel)
theorem mw_74 : mwOK 74 := by
  refine mwOK_mk (y := (⟨"EvenWords", "canRead", "(II)Z"⟩ : MethodName)) (n := 2) rfl ?_ ?_ ?_ ?_ (by decide +kernel) (by decide +kernel) pmd_3 rfl (by decide +kernel)
  · exact chk_in (i := 384) (by decide +kernel)
  · exact chk_in (i := 383) (by decide +kernel)
  · exact fun h1 h2 => absurd h2 (by decide +kernel)
  · exact chk_in (i := 40) (by decide +kernel)
theorem mw_75 : mwOK 75 := by
  refine mwOK_mk (y := (⟨"EvenWords", "sumOf", "(I)I"⟩ : MethodName)) (n := 1) rfl ?_ ?_ ?_ ?_ (by decide +kernel) (by decide +kernel) pmd_2 rfl (by decide +kernel)
  · exact chk_in (i := 360) (by decide +kernel)
  · exact chk_in (i := 359) (by decide +kernel)
  · exact fun h1 h2 => absurd h2 (by decide +kernel)
  · exact chk_in (i := 40) (by decide +kernel)
theorem mw_76 : mwOK 76 := by
  refine mwOK_mk (y := (⟨"EvenWords", "signOf", "(I)I"⟩ : MethodName)) (n := 1) rfl ?_ ?_ ?_ ?_ (by decide +kernel) (by decide +kernel) pmd_2 rfl (by decide +kernel)
  · exact chk_in (i := 444) (by decide +kernel)
  · exact chk_in (i := 443) (by decide +kernel)
  · exact fun h1 h2 => absurd h2 (by decide +kernel)
  · exact chk_in (i := 40) (by decide +kernel)
theorem mw_77 : mwOK 77 := by
  refine mwOK_mk (y := (⟨"EvenWordsModel", "<init>", "()V"⟩ : MethodName)) (n := 0) rfl ?_ ?_ ?_ ?_ (by decide +kernel) (by decide +kernel) pmd_4 rfl (by decide +kernel)
  · exact chk_in (i := 549) (by decide +kernel)
  · exact chk_in (i := 548) (by decide +kernel)
  · exact fun h1 h2 => absurd h1 (by decide +kernel)
  · exact chk_in (i := 45) (by decide +kernel)
theorem mw_78 : mwOK 78 := by
  refine mwOK_mk (y := (⟨"EvenWordsModel", "bares", "()V"⟩ : MethodName)) (n := 0) rfl ?_ ?_ ?_ ?_ (by decide +kernel) (by decide +kernel) pmd_4 rfl (by decide +kernel)
  · exact chk_in (i := 554) (by decide +kernel)
  · exact chk_in (i := 553) (by decide +kernel)
  · exact fun _ _ => chk_in (i := 16) (by decide +kernel)
  · exact chk_in (i := 45) (by decide +kernel)
theorem mw_79 : mwOK 79 := by
  refine mwOK_mk (y := (⟨"EvenWordsModel", "in", "(III)Z"⟩ : MethodName)) (n := 3) rfl ?_ ?_ ?_ ?_ (by decide +kernel) (by decide +kernel) pmd_14 rfl (by decide +kernel)
  · exact chk_in (i := 658) (by decide +kernel)
  · exact chk_in (i := 657) (by decide +kernel)
  · exact fun h1 h2 => absurd h2 (by decide +kernel)
  · exact chk_in (i := 45) (by decide +kernel)
theorem mw_80 : mwOK 80 := by
  refine mwOK_mk (y := (⟨"EvenWordsModel", "ones", "(I)I"⟩ : MethodName)) (n := 1) rfl ?_ ?_ ?_ ?_ (by decide +kernel) (by decide +kernel) pmd_2 rfl (by decide +kernel)
  · exact chk_in (i := 699) (by decide +kernel)
  · exact chk_in (i := 698) (by decide +kernel)
  · exact fun h1 h2 => absurd h2 (by decide +kernel)
  · exact chk_in (i := 45) (by decide +kernel)
theorem mw_81 : mwOK 81 := by
  refine mwOK_mk (y := (⟨"EvenWordsModel", "isMark", "(I)Z"⟩ : MethodName)) (n := 1) rfl ?_ ?_ ?_ ?_ (by decide +kernel) (by decide +kernel) pmd_0 rfl (by decide +kernel)
  · exact chk_in (i := 702) (by decide +kernel)
  · exact chk_in (i := 701) (by decide +kernel)
  · exact fun h1 h2 => absurd h2 (by decide +kernel)
  · exact chk_in (i := 45) (by decide +kernel)
theorem mw_82 : mwOK 82 := by
  refine mwOK_mk (y := (⟨"EvenWordsModel", "kth", "(II)I"⟩ : MethodName)) (n := 2) rfl ?_ ?_ ?_ ?_ (by decide +kernel) (by decide +kernel) pmd_1 rfl (by decide +kernel)
  · exact chk_in (i := 696) (by decide +kernel)
  · exact chk_in (i := 695) (by decide +kernel)
  · exact fun h1 h2 => absurd h2 (by decide +kernel)
  · exact chk_in (i := 45) (by decide +kernel)
theorem mw_83 : mwOK 83 := by
  refine mwOK_mk (y := (⟨"EvenWordsModel", "formOf", "(II)I"⟩ : MethodName)) (n := 2) rfl ?_ ?_ ?_ ?_ (by decide +kernel) (by decide +kernel) pmd_1 rfl (by decide +kernel)
  · exact chk_in (i := 693) (by decide +kernel)
  · exact chk_in (i := 692) (by decide +kernel)
  · exact fun h1 h2 => absurd h2 (by decide +kernel)
  · exact chk_in (i := 45) (by decide +kernel)
theorem mw_84 : mwOK 84 := by
  refine mwOK_mk (y := (⟨"EvenWordsModel", "lays", "()V"⟩ : MethodName)) (n := 0) rfl ?_ ?_ ?_ ?_ (by decide +kernel) (by decide +kernel) pmd_4 rfl (by decide +kernel)
  · exact chk_in (i := 764) (by decide +kernel)
  · exact chk_in (i := 763) (by decide +kernel)
  · exact fun _ _ => chk_in (i := 26) (by decide +kernel)
  · exact chk_in (i := 45) (by decide +kernel)
theorem mw_85 : mwOK 85 := by
  refine mwOK_mk (y := (⟨"EvenWordsModel", "letterAt", "(I)I"⟩ : MethodName)) (n := 1) rfl ?_ ?_ ?_ ?_ (by decide +kernel) (by decide +kernel) pmd_2 rfl (by decide +kernel)
  · exact chk_in (i := 678) (by decide +kernel)
  · exact chk_in (i := 677) (by decide +kernel)
  · exact fun _ _ => chk_in (i := 19) (by decide +kernel)
  · exact chk_in (i := 45) (by decide +kernel)
theorem mw_86 : mwOK 86 := by
  refine mwOK_mk (y := (⟨"EvenWordsModel", "type", "(I)I"⟩ : MethodName)) (n := 1) rfl ?_ ?_ ?_ ?_ (by decide +kernel) (by decide +kernel) pmd_2 rfl (by decide +kernel)
  · exact chk_in (i := 655) (by decide +kernel)
  · exact chk_in (i := 653) (by decide +kernel)
  · exact fun _ _ => chk_in (i := 654) (by decide +kernel)
  · exact chk_in (i := 45) (by decide +kernel)
theorem mw_87 : mwOK 87 := by
  refine mwOK_mk (y := (⟨"EvenWordsModel", "clear", "()I"⟩ : MethodName)) (n := 0) rfl ?_ ?_ ?_ ?_ (by decide +kernel) (by decide +kernel) pmd_9 rfl (by decide +kernel)
  · exact chk_in (i := 662) (by decide +kernel)
  · exact chk_in (i := 660) (by decide +kernel)
  · exact fun _ _ => chk_in (i := 661) (by decide +kernel)
  · exact chk_in (i := 45) (by decide +kernel)
theorem mw_88 : mwOK 88 := by
  refine mwOK_mk (y := (⟨"EvenWordsModel", "advances", "()V"⟩ : MethodName)) (n := 0) rfl ?_ ?_ ?_ ?_ (by decide +kernel) (by decide +kernel) pmd_4 rfl (by decide +kernel)
  · exact chk_in (i := 674) (by decide +kernel)
  · exact chk_in (i := 673) (by decide +kernel)
  · exact fun _ _ => chk_in (i := 18) (by decide +kernel)
  · exact chk_in (i := 45) (by decide +kernel)
theorem mw_89 : mwOK 89 := by
  refine mwOK_mk (y := (⟨"EvenWordsModel", "takes", "(Z)I"⟩ : MethodName)) (n := 1) rfl ?_ ?_ ?_ ?_ (by decide +kernel) (by decide +kernel) pmd_15 rfl (by decide +kernel)
  · exact chk_in (i := 682) (by decide +kernel)
  · exact chk_in (i := 681) (by decide +kernel)
  · exact fun _ _ => chk_in (i := 20) (by decide +kernel)
  · exact chk_in (i := 45) (by decide +kernel)
theorem mw_90 : mwOK 90 := by
  refine mwOK_mk (y := (⟨"EvenWordsModel", "readsText", "()V"⟩ : MethodName)) (n := 0) rfl ?_ ?_ ?_ ?_ (by decide +kernel) (by decide +kernel) pmd_4 rfl (by decide +kernel)
  · exact chk_in (i := 670) (by decide +kernel)
  · exact chk_in (i := 669) (by decide +kernel)
  · exact fun _ _ => chk_in (i := 17) (by decide +kernel)
  · exact chk_in (i := 45) (by decide +kernel)
theorem mw_91 : mwOK 91 := by
  refine mwOK_mk (y := (⟨"EvenWordsModel", "tells", "()I"⟩ : MethodName)) (n := 0) rfl ?_ ?_ ?_ ?_ (by decide +kernel) (by decide +kernel) pmd_9 rfl (by decide +kernel)
  · exact chk_in (i := 666) (by decide +kernel)
  · exact chk_in (i := 664) (by decide +kernel)
  · exact fun _ _ => chk_in (i := 665) (by decide +kernel)
  · exact chk_in (i := 45) (by decide +kernel)
theorem mw_92 : mwOK 92 := by
  refine mwOK_mk (y := (⟨"EvenWordsModel", "notes", "()V"⟩ : MethodName)) (n := 0) rfl ?_ ?_ ?_ ?_ (by decide +kernel) (by decide +kernel) pmd_4 rfl (by decide +kernel)
  · exact chk_in (i := 686) (by decide +kernel)
  · exact chk_in (i := 685) (by decide +kernel)
  · exact fun _ _ => chk_in (i := 21) (by decide +kernel)
  · exact chk_in (i := 45) (by decide +kernel)
theorem mw_93 : mwOK 93 := by
  refine mwOK_mk (y := (⟨"EvenWordsModel", "remembers", "(I)V"⟩ : MethodName)) (n := 1) rfl ?_ ?_ ?_ ?_ (by decide +kernel) (by decide +kernel) pmd_7 rfl (by decide +kernel)
  · exact chk_in (i := 706) (by decide +kernel)
  · exact chk_in (i := 705) (by decide +kernel)
  · exact fun _ _ => chk_in (i := 23) (by decide +kernel)
  · exact chk_in (i := 45) (by decide +kernel)
theorem mw_94 : mwOK 94 := by
  refine mwOK_mk (y := (⟨"EvenWordsModel", "sent", "(I)I"⟩ : MethodName)) (n := 1) rfl ?_ ?_ ?_ ?_ (by decide +kernel) (by decide +kernel) pmd_2 rfl (by decide +kernel)
  · exact chk_in (i := 690) (by decide +kernel)
  · exact chk_in (i := 689) (by decide +kernel)
  · exact fun _ _ => chk_in (i := 22) (by decide +kernel)
  · exact chk_in (i := 45) (by decide +kernel)
theorem mw_95 : mwOK 95 := by
  refine mwOK_mk (y := (⟨"EvenWordsModel", "sends", "(I)I"⟩ : MethodName)) (n := 1) rfl ?_ ?_ ?_ ?_ (by decide +kernel) (by decide +kernel) pmd_2 rfl (by decide +kernel)
  · exact chk_in (i := 710) (by decide +kernel)
  · exact chk_in (i := 708) (by decide +kernel)
  · exact fun _ _ => chk_in (i := 709) (by decide +kernel)
  · exact chk_in (i := 45) (by decide +kernel)
theorem mw_96 : mwOK 96 := by
  refine mwOK_mk (y := (⟨"EvenWordsModel", "marks", "(I)I"⟩ : MethodName)) (n := 1) rfl ?_ ?_ ?_ ?_ (by decide +kernel) (by decide +kernel) pmd_2 rfl (by decide +kernel)
  · exact chk_in (i := 714) (by decide +kernel)
  · exact chk_in (i := 712) (by decide +kernel)
  · exact fun _ _ => chk_in (i := 713) (by decide +kernel)
  · exact chk_in (i := 45) (by decide +kernel)
theorem mw_97 : mwOK 97 := by
  refine mwOK_mk (y := (⟨"EvenWordsModel", "isBit", "(I)Z"⟩ : MethodName)) (n := 1) rfl ?_ ?_ ?_ ?_ (by decide +kernel) (by decide +kernel) pmd_0 rfl (by decide +kernel)
  · exact chk_in (i := 722) (by decide +kernel)
  · exact chk_in (i := 721) (by decide +kernel)
  · exact fun _ _ => chk_in (i := 24) (by decide +kernel)
  · exact chk_in (i := 45) (by decide +kernel)
theorem mw_98 : mwOK 98 := by
  refine mwOK_mk (y := (⟨"EvenWordsModel", "flips", "(I)I"⟩ : MethodName)) (n := 1) rfl ?_ ?_ ?_ ?_ (by decide +kernel) (by decide +kernel) pmd_2 rfl (by decide +kernel)
  · exact chk_in (i := 718) (by decide +kernel)
  · exact chk_in (i := 716) (by decide +kernel)
  · exact fun _ _ => chk_in (i := 717) (by decide +kernel)
  · exact chk_in (i := 45) (by decide +kernel)
theorem mw_99 : mwOK 99 := by
  refine mwOK_mk (y := (⟨"EvenWordsModel", "clears", "()I"⟩ : MethodName)) (n := 0) rfl ?_ ?_ ?_ ?_ (by decide +kernel) (by decide +kernel) pmd_9 rfl (by decide +kernel)
  · exact chk_in (i := 726) (by decide +kernel)
  · exact chk_in (i := 724) (by decide +kernel)
  · exact fun _ _ => chk_in (i := 725) (by decide +kernel)
  · exact chk_in (i := 45) (by decide +kernel)
theorem mw_100 : mwOK 100 := by
  refine mwOK_mk (y := (⟨"EvenWordsModel", "undo", "()I"⟩ : MethodName)) (n := 0) rfl ?_ ?_ ?_ ?_ (by decide +kernel) (by decide +kernel) pmd_9 rfl (by decide +kernel)
  · exact chk_in (i := 730) (by decide +kernel)
  · exact chk_in (i := 728) (by decide +kernel)
  · exact fun _ _ => chk_in (i := 729) (by decide +kernel)
  · exact chk_in (i := 45) (by decide +kernel)
theorem mw_101 : mwOK 101 := by
  refine mwOK_mk (y := (⟨"EvenWordsModel", "form", "(II)I"⟩ : MethodName)) (n := 2) rfl ?_ ?_ ?_ ?_ (by decide +kernel) (by decide +kernel) pmd_1 rfl (by decide +kernel)
  · exact chk_in (i := 734) (by decide +kernel)
  · exact chk_in (i := 732) (by decide +kernel)
  · exact fun _ _ => chk_in (i := 733) (by decide +kernel)
  · exact chk_in (i := 45) (by decide +kernel)
theorem mw_102 : mwOK 102 := by
  refine mwOK_mk (y := (⟨"EvenWordsModel", "bit", "(I)I"⟩ : MethodName)) (n := 1) rfl ?_ ?_ ?_ ?_ (by decide +kernel) (by decide +kernel) pmd_2 rfl (by decide +kernel)
  · exact chk_in (i := 738) (by decide +kernel)
  · exact chk_in (i := 736) (by decide +kernel)
  · exact fun _ _ => chk_in (i := 737) (by decide +kernel)
  · exact chk_in (i := 45) (by decide +kernel)
theorem mw_103 : mwOK 103 := by
  refine mwOK_mk (y := (⟨"EvenWordsModel", "word", "(I)I"⟩ : MethodName)) (n := 1) rfl ?_ ?_ ?_ ?_ (by decide +kernel) (by decide +kernel) pmd_2 rfl (by decide +kernel)
  · exact chk_in (i := 742) (by decide +kernel)
  · exact chk_in (i := 740) (by decide +kernel)
  · exact fun _ _ => chk_in (i := 741) (by decide +kernel)
  · exact chk_in (i := 45) (by decide +kernel)
theorem mw_104 : mwOK 104 := by
  refine mwOK_mk (y := (⟨"EvenWordsModel", "recent", "(I)I"⟩ : MethodName)) (n := 1) rfl ?_ ?_ ?_ ?_ (by decide +kernel) (by decide +kernel) pmd_2 rfl (by decide +kernel)
  · exact chk_in (i := 746) (by decide +kernel)
  · exact chk_in (i := 744) (by decide +kernel)
  · exact fun _ _ => chk_in (i := 745) (by decide +kernel)
  · exact chk_in (i := 45) (by decide +kernel)
theorem mw_105 : mwOK 105 := by
  refine mwOK_mk (y := (⟨"EvenWordsModel", "bitAt", "(II)I"⟩ : MethodName)) (n := 2) rfl ?_ ?_ ?_ ?_ (by decide +kernel) (by decide +kernel) pmd_1 rfl (by decide +kernel)
  · exact chk_in (i := 768) (by decide +kernel)
  · exact chk_in (i := 767) (by decide +kernel)
  · exact fun _ _ => chk_in (i := 27) (by decide +kernel)
  · exact chk_in (i := 45) (by decide +kernel)
theorem mw_106 : mwOK 106 := by
  refine mwOK_mk (y := (⟨"EvenWordsModel", "reads", "(III)V"⟩ : MethodName)) (n := 3) rfl ?_ ?_ ?_ ?_ (by decide +kernel) (by decide +kernel) pmd_16 rfl (by decide +kernel)
  · exact chk_in (i := 760) (by decide +kernel)
  · exact chk_in (i := 759) (by decide +kernel)
  · exact fun _ _ => chk_in (i := 25) (by decide +kernel)
  · exact chk_in (i := 45) (by decide +kernel)
theorem mw_107 : mwOK 107 := by
  refine mwOK_mk (y := (⟨"EvenWordsModel", "firstBreach", "()I"⟩ : MethodName)) (n := 0) rfl ?_ ?_ ?_ ?_ (by decide +kernel) (by decide +kernel) pmd_9 rfl (by decide +kernel)
  · exact chk_in (i := 777) (by decide +kernel)
  · exact chk_in (i := 776) (by decide +kernel)
  · exact fun _ _ => chk_in (i := 28) (by decide +kernel)
  · exact chk_in (i := 45) (by decide +kernel)
theorem mw_108 : mwOK 108 := by
  refine mwOK_mk (y := (⟨"EvenWordsModel", "isBegin", "(II)Z"⟩ : MethodName)) (n := 2) rfl ?_ ?_ ?_ ?_ (by decide +kernel) (by decide +kernel) pmd_3 rfl (by decide +kernel)
  · exact chk_in (i := 753) (by decide +kernel)
  · exact chk_in (i := 752) (by decide +kernel)
  · exact fun h1 h2 => absurd h2 (by decide +kernel)
  · exact chk_in (i := 45) (by decide +kernel)
theorem mw_109 : mwOK 109 := by
  refine mwOK_mk (y := (⟨"EvenWordsModel", "sumOf", "(I)I"⟩ : MethodName)) (n := 1) rfl ?_ ?_ ?_ ?_ (by decide +kernel) (by decide +kernel) pmd_2 rfl (by decide +kernel)
  · exact chk_in (i := 756) (by decide +kernel)
  · exact chk_in (i := 755) (by decide +kernel)
  · exact fun h1 h2 => absurd h2 (by decide +kernel)
  · exact chk_in (i := 45) (by decide +kernel)
theorem mw_110 : mwOK 110 := by
  refine mwOK_mk (y := (⟨"EvenWordsModel", "piece", "(IIII)I"⟩ : MethodName)) (n := 4) rfl ?_ ?_ ?_ ?_ (by decide +kernel) (by decide +kernel) pmd_12 rfl (by decide +kernel)
  · exact chk_in (i := 750) (by decide +kernel)
  · exact chk_in (i := 748) (by decide +kernel)
  · exact fun _ _ => chk_in (i := 749) (by decide +kernel)
  · exact chk_in (i := 45) (by decide +kernel)
theorem mw_111 : mwOK 111 := by
  refine mwOK_mk (y := (⟨"EvenWordsModel", "blames", "(II)V"⟩ : MethodName)) (n := 2) rfl ?_ ?_ ?_ ?_ (by decide +kernel) (by decide +kernel) pmd_17 rfl (by decide +kernel)
  · exact chk_in (i := 781) (by decide +kernel)
  · exact chk_in (i := 780) (by decide +kernel)
  · exact fun _ _ => chk_in (i := 29) (by decide +kernel)
  · exact chk_in (i := 45) (by decide +kernel)
theorem mw_112 : mwOK 112 := by
  refine mwOK_mk (y := (⟨"EvenWordsModel", "read", "(III)I"⟩ : MethodName)) (n := 3) rfl ?_ ?_ ?_ ?_ (by decide +kernel) (by decide +kernel) pmd_13 rfl (by decide +kernel)
  · exact chk_in (i := 772) (by decide +kernel)
  · exact chk_in (i := 770) (by decide +kernel)
  · exact fun _ _ => chk_in (i := 771) (by decide +kernel)
  · exact chk_in (i := 45) (by decide +kernel)
theorem mw_113 : mwOK 113 := by
  refine mwOK_mk (y := (⟨"EvenWordsModel", "cuts", "(I)I"⟩ : MethodName)) (n := 1) rfl ?_ ?_ ?_ ?_ (by decide +kernel) (by decide +kernel) pmd_2 rfl (by decide +kernel)
  · exact chk_in (i := 786) (by decide +kernel)
  · exact chk_in (i := 784) (by decide +kernel)
  · exact fun _ _ => chk_in (i := 785) (by decide +kernel)
  · exact chk_in (i := 45) (by decide +kernel)
theorem mw_114 : mwOK 114 := by
  refine mwOK_mk (y := (⟨"EvenWordsModel", "laysLevels", "()V"⟩ : MethodName)) (n := 0) rfl ?_ ?_ ?_ ?_ (by decide +kernel) (by decide +kernel) pmd_4 rfl (by decide +kernel)
  · exact chk_in (i := 794) (by decide +kernel)
  · exact chk_in (i := 793) (by decide +kernel)
  · exact fun _ _ => chk_in (i := 30) (by decide +kernel)
  · exact chk_in (i := 45) (by decide +kernel)
theorem mw_115 : mwOK 115 := by
  refine mwOK_mk (y := (⟨"EvenWordsModel", "longest", "()I"⟩ : MethodName)) (n := 0) rfl ?_ ?_ ?_ ?_ (by decide +kernel) (by decide +kernel) pmd_9 rfl (by decide +kernel)
  · exact chk_in (i := 844) (by decide +kernel)
  · exact chk_in (i := 843) (by decide +kernel)
  · exact fun _ _ => chk_in (i := 37) (by decide +kernel)
  · exact chk_in (i := 45) (by decide +kernel)
theorem mw_116 : mwOK 116 := by
  refine mwOK_mk (y := (⟨"EvenWordsModel", "level", "(II)I"⟩ : MethodName)) (n := 2) rfl ?_ ?_ ?_ ?_ (by decide +kernel) (by decide +kernel) pmd_1 rfl (by decide +kernel)
  · exact chk_in (i := 790) (by decide +kernel)
  · exact chk_in (i := 788) (by decide +kernel)
  · exact fun _ _ => chk_in (i := 789) (by decide +kernel)
  · exact chk_in (i := 45) (by decide +kernel)
theorem mw_117 : mwOK 117 := by
  refine mwOK_mk (y := (⟨"EvenWordsModel", "lengthens", "(I)V"⟩ : MethodName)) (n := 1) rfl ?_ ?_ ?_ ?_ (by decide +kernel) (by decide +kernel) pmd_7 rfl (by decide +kernel)
  · exact chk_in (i := 810) (by decide +kernel)
  · exact chk_in (i := 809) (by decide +kernel)
  · exact fun _ _ => chk_in (i := 33) (by decide +kernel)
  · exact chk_in (i := 45) (by decide +kernel)
theorem mw_118 : mwOK 118 := by
  refine mwOK_mk (y := (⟨"EvenWordsModel", "isOrder", "(II)Z"⟩ : MethodName)) (n := 2) rfl ?_ ?_ ?_ ?_ (by decide +kernel) (by decide +kernel) pmd_3 rfl (by decide +kernel)
  · exact chk_in (i := 814) (by decide +kernel)
  · exact chk_in (i := 813) (by decide +kernel)
  · exact fun _ _ => chk_in (i := 34) (by decide +kernel)
  · exact chk_in (i := 45) (by decide +kernel)
theorem mw_119 : mwOK 119 := by
  refine mwOK_mk (y := (⟨"EvenWordsModel", "laysAhead", "(I)V"⟩ : MethodName)) (n := 1) rfl ?_ ?_ ?_ ?_ (by decide +kernel) (by decide +kernel) pmd_7 rfl (by decide +kernel)
  · exact chk_in (i := 806) (by decide +kernel)
  · exact chk_in (i := 805) (by decide +kernel)
  · exact fun _ _ => chk_in (i := 32) (by decide +kernel)
  · exact chk_in (i := 45) (by decide +kernel)
theorem mw_120 : mwOK 120 := by
  refine mwOK_mk (y := (⟨"EvenWordsModel", "evenestOf", "(I)I"⟩ : MethodName)) (n := 1) rfl ?_ ?_ ?_ ?_ (by decide +kernel) (by decide +kernel) pmd_2 rfl (by decide +kernel)
  · exact chk_in (i := 802) (by decide +kernel)
  · exact chk_in (i := 801) (by decide +kernel)
  · exact fun _ _ => chk_in (i := 31) (by decide +kernel)
  · exact chk_in (i := 45) (by decide +kernel)
theorem mw_121 : mwOK 121 := by
  refine mwOK_mk (y := (⟨"EvenWordsModel", "evenest", "(II)I"⟩ : MethodName)) (n := 2) rfl ?_ ?_ ?_ ?_ (by decide +kernel) (by decide +kernel) pmd_1 rfl (by decide +kernel)
  · exact chk_in (i := 798) (by decide +kernel)
  · exact chk_in (i := 796) (by decide +kernel)
  · exact fun _ _ => chk_in (i := 797) (by decide +kernel)
  · exact chk_in (i := 45) (by decide +kernel)
theorem mw_122 : mwOK 122 := by
  refine mwOK_mk (y := (⟨"EvenWordsModel", "weight", "(I)I"⟩ : MethodName)) (n := 1) rfl ?_ ?_ ?_ ?_ (by decide +kernel) (by decide +kernel) pmd_2 rfl (by decide +kernel)
  · exact chk_in (i := 818) (by decide +kernel)
  · exact chk_in (i := 816) (by decide +kernel)
  · exact fun _ _ => chk_in (i := 817) (by decide +kernel)
  · exact chk_in (i := 45) (by decide +kernel)
theorem mw_123 : mwOK 123 := by
  refine mwOK_mk (y := (⟨"EvenWordsModel", "keep", "(I)I"⟩ : MethodName)) (n := 1) rfl ?_ ?_ ?_ ?_ (by decide +kernel) (by decide +kernel) pmd_2 rfl (by decide +kernel)
  · exact chk_in (i := 824) (by decide +kernel)
  · exact chk_in (i := 822) (by decide +kernel)
  · exact fun _ _ => chk_in (i := 823) (by decide +kernel)
  · exact chk_in (i := 45) (by decide +kernel)
theorem mw_124 : mwOK 124 := by
  refine mwOK_mk (y := (⟨"EvenWordsModel", "back", "(I)I"⟩ : MethodName)) (n := 1) rfl ?_ ?_ ?_ ?_ (by decide +kernel) (by decide +kernel) pmd_2 rfl (by decide +kernel)
  · exact chk_in (i := 828) (by decide +kernel)
  · exact chk_in (i := 826) (by decide +kernel)
  · exact fun _ _ => chk_in (i := 827) (by decide +kernel)
  · exact chk_in (i := 45) (by decide +kernel)
theorem mw_125 : mwOK 125 := by
  refine mwOK_mk (y := (⟨"EvenWordsModel", "turnedMany", "()I"⟩ : MethodName)) (n := 0) rfl ?_ ?_ ?_ ?_ (by decide +kernel) (by decide +kernel) pmd_9 rfl (by decide +kernel)
  · exact chk_in (i := 840) (by decide +kernel)
  · exact chk_in (i := 839) (by decide +kernel)
  · exact fun _ _ => chk_in (i := 36) (by decide +kernel)
  · exact chk_in (i := 45) (by decide +kernel)
theorem mw_126 : mwOK 126 := by
  refine mwOK_mk (y := (⟨"EvenWordsModel", "oneMany", "()I"⟩ : MethodName)) (n := 0) rfl ?_ ?_ ?_ ?_ (by decide +kernel) (by decide +kernel) pmd_9 rfl (by decide +kernel)
  · exact chk_in (i := 836) (by decide +kernel)
  · exact chk_in (i := 835) (by decide +kernel)
  · exact fun _ _ => chk_in (i := 35) (by decide +kernel)
  · exact chk_in (i := 45) (by decide +kernel)
theorem mw_127 : mwOK 127 := by
  refine mwOK_mk (y := (⟨"EvenWordsModel", "markMany", "()I"⟩ : MethodName)) (n := 0) rfl ?_ ?_ ?_ ?_ (by decide +kernel) (by decide +kernel) pmd_9 rfl (by decide +kernel)
  · exact chk_in (i := 848) (by decide +kernel)
  · exact chk_in (i := 847) (by decide +kernel)
  · exact fun _ _ => chk_in (i := 38) (by decide +kernel)
  · exact chk_in (i := 45) (by decide +kernel)
theorem mw_128 : mwOK 128 := by
  refine mwOK_mk (y := (⟨"EvenWordsModel", "count", "(I)I"⟩ : MethodName)) (n := 1) rfl ?_ ?_ ?_ ?_ (by decide +kernel) (by decide +kernel) pmd_2 rfl (by decide +kernel)
  · exact chk_in (i := 832) (by decide +kernel)
  · exact chk_in (i := 830) (by decide +kernel)
  · exact fun _ _ => chk_in (i := 831) (by decide +kernel)
  · exact chk_in (i := 45) (by decide +kernel)
theorem mw_129 : mwOK 129 := by
  refine mwOK_mk (y := (⟨"java/lang/Integer", "bitCount", "(I)I"⟩ : MethodName)) (n := 1) rfl ?_ ?_ ?_ ?_ (by decide +kernel) (by decide +kernel) pmd_2 rfl (by decide +kernel)
  · exact chk_in (i := 295) (by decide +kernel)
  · exact chk_in (i := 294) (by decide +kernel)
  · exact fun h1 h2 => absurd h2 (by decide +kernel)
  · exact chk_in (i := 47) (by decide +kernel)
theorem mw_all {k : Nat} (h : k < 130) : mwOK k := by
  match k, h with
  | 0, _ => exact mw_0
  | 1, _ => exact mw_1
  | 2, _ => exact mw_2
  | 3, _ => exact mw_3
  | 4, _ => exact mw_4
  | 5, _ => exact mw_5
  | 6, _ => exact mw_6
  | 7, _ => exact mw_7
  | 8, _ => exact mw_8
  | 9, _ => exact mw_9
  | 10, _ => exact mw_10
  | 11, _ => exact mw_11
  | 12, _ => exact mw_12
  | 13, _ => exact mw_13
  | 14, _ => exact mw_14
  | 15, _ => exact mw_15
  | 16, _ => exact mw_16
  | 17, _ => exact mw_17
  | 18, _ => exact mw_18
  | 19, _ => exact mw_19
  | 20, _ => exact mw_20
  | 21, _ => exact mw_21
  | 22, _ => exact mw_22
  | 23, _ => exact mw_23
  | 24, _ => exact mw_24
  | 25, _ => exact mw_25
  | 26, _ => exact mw_26
  | 27, _ => exact mw_27
  | 28, _ => exact mw_28
  | 29, _ => exact mw_29
  | 30, _ => exact mw_30
  | 31, _ => exact mw_31
  | 32, _ => exact mw_32
  | 33, _ => exact mw_33
  | 34, _ => exact mw_34
  | 35, _ => exact mw_35
  | 36, _ => exact mw_36
  | 37, _ => exact mw_37
  | 38, _ => exact mw_38
  | 39, _ => exact mw_39
  | 40, _ => exact mw_40
  | 41, _ => exact mw_41
  | 42, _ => exact mw_42
  | 43, _ => exact mw_43
  | 44, _ => exact mw_44
  | 45, _ => exact mw_45
  | 46, _ => exact mw_46
  | 47, _ => exact mw_47
  | 48, _ => exact mw_48
  | 49, _ => exact mw_49
  | 50, _ => exact mw_50
  | 51, _ => exact mw_51
  | 52, _ => exact mw_52
  | 53, _ => exact mw_53
  | 54, _ => exact mw_54
  | 55, _ => exact mw_55
  | 56, _ => exact mw_56
  | 57, _ => exact mw_57
  | 58, _ => exact mw_58
  | 59, _ => exact mw_59
  | 60, _ => exact mw_60
  | 61, _ => exact mw_61
  | 62, _ => exact mw_62
  | 63, _ => exact mw_63
  | 64, _ => exact mw_64
  | 65, _ => exact mw_65
  | 66, _ => exact mw_66
  | 67, _ => exact mw_67
  | 68, _ => exact mw_68
  | 69, _ => exact mw_69
  | 70, _ => exact mw_70
  | 71, _ => exact mw_71
  | 72, _ => exact mw_72
  | 73, _ => exact mw_73
  | 74, _ => exact mw_74
  | 75, _ => exact mw_75
  | 76, _ => exact mw_76
  | 77, _ => exact mw_77
  | 78, _ => exact mw_78
  | 79, _ => exact mw_79
  | 80, _ => exact mw_80
  | 81, _ => exact mw_81
  | 82, _ => exact mw_82
  | 83, _ => exact mw_83
  | 84, _ => exact mw_84
  | 85, _ => exact mw_85
  | 86, _ => exact mw_86
  | 87, _ => exact mw_87
  | 88, _ => exact mw_88
  | 89, _ => exact mw_89
  | 90, _ => exact mw_90
  | 91, _ => exact mw_91
  | 92, _ => exact mw_92
  | 93, _ => exact mw_93
  | 94, _ => exact mw_94
  | 95, _ => exact mw_95
  | 96, _ => exact mw_96
  | 97, _ => exact mw_97
  | 98, _ => exact mw_98
  | 99, _ => exact mw_99
  | 100, _ => exact mw_100
  | 101, _ => exact mw_101
  | 102, _ => exact mw_102
  | 103, _ => exact mw_103
  | 104, _ => exact mw_104
  | 105, _ => exact mw_105
  | 106, _ => exact mw_106
  | 107, _ => exact mw_107
  | 108, _ => exact mw_108
  | 109, _ => exact mw_109
  | 110, _ => exact mw_110
  | 111, _ => exact mw_111
  | 112, _ => exact mw_112
  | 113, _ => exact mw_113
  | 114, _ => exact mw_114
  | 115, _ => exact mw_115
  | 116, _ => exact mw_116
  | 117, _ => exact mw_117
  | 118, _ => exact mw_118
  | 119, _ => exact mw_119
  | 120, _ => exact mw_120
  | 121, _ => exact mw_121
  | 122, _ => exact mw_122
  | 123, _ => exact mw_123
  | 124, _ => exact mw_124
  | 125, _ => exact mw_125
  | 126, _ => exact mw_126
  | 127, _ => exact mw_127
  | 128, _ => exact mw_128
  | 129, _ => exact mw_129
  | n + 130, h => omega
def vC (ci : Nat) : vw_C := vwCl.getD ci ("", (fun _ => ("", "", "", false)), 0)
def tyC (ci : Nat) : Nat → FieldType := mvTy.getD ci (fun _ => .int)
def chkF (q : Nat × Nat × Nat × Nat × Nat) : Bool :=
  chk (.fieldLink (ownN q.1) q.2.1 (vC q.2.2.1).1 ((vC q.2.2.1).2.1 q.2.2.2.1).2.1 ((vC q.2.2.1).2.1 q.2.2.2.1).2.2.1) (q.2.2.2.2 + npv) && decide (q.2.2.1 < 6 ∧ q.2.2.2.1 < nfOf q.2.2.1)
theorem chkF_all : mvF.all chkF = true := by decide +kernel
def nestW (q : Nat × Nat × Nat × Bool × Nat) : Cond := .methodLinkNest (ownN q.1) q.2.1 (yOf q.2.2.1) "EvenWords"
def chkC (q : Nat × Nat × Nat × Bool × Nat) : Bool := decide (q.2.2.1 < 131) && (if q.2.2.2.1 then decide (lw_tbl[q.2.2.2.2 + npv]? = some (nestW q)) && isInit q.2.2.1 else chk (.methodLink (ownN q.1) q.2.1 (yOf q.2.2.1)) (q.2.2.2.2 + npv))
theorem chkC_1 : (mvC.take 80).all chkC = true := by decide +kernel
theorem chkC_2 : (mvC.drop 80).all chkC = true := by decide +kernel
theorem chkC_all {q : Nat × Nat × Nat × Bool × Nat} (h : q ∈ mvC) : chkC q = true := by
  rw [← List.take_append_drop 80 mvC] at h
  rcases List.mem_append.mp h with h | h
  · exact List.all_eq_true.mp chkC_1 q h
  · exact List.all_eq_true.mp chkC_2 q h
def chkOb (q : Nat × Nat × Nat) : Bool := chk (.methodLink (ownN q.1) q.2.1 objectInit) (q.2.2 + npv)
theorem chkOb_all : mvOb.all chkOb = true := by decide +kernel
theorem obj_in : (Cond.instanceMethod objectInit) ∈ gT ∧ (Cond.code objectInit ⟨#[0xb1]⟩ 1 none) ∈ gT := ⟨chk_in (i := 16 + npv) (by decide +kernel), chk_in (i := 17 + npv) (by decide +kernel)⟩
def chkN (q : Nat × Nat × Nat × Nat) : Bool := chk (.classLink (ownN q.1) q.2.1 (vC q.2.2.1).1) (q.2.2.2 + npv) && decide (q.2.2.1 < 6)
theorem chkN_all : mvN.all chkN = true := by decide +kernel
theorem mx_in : Lib.Math.max.name = yOf 130 ∧ (Cond.static Lib.Math.max.name) ∈ gT ∧ (Cond.initialized "java/lang/Math") ∈ gT ∧ (Cond.code Lib.Math.max.name Lib.Math.max.code 2 (some .int)) ∈ gT := ⟨rfl, chk_in (i := 395 + npv) (by decide +kernel), chk_in (i := 9 + npv) (by decide +kernel), chk_in (i := 396 + npv) (by decide +kernel)⟩
def chkK (q : Nat × Nat × Int32 × Nat) : Bool := chk (.constant (ownN q.1) q.2.1 q.2.2.1) (q.2.2.2 + npv)
theorem chkK_all : mvK.all chkK = true := by decide +kernel
def chkKl (q : Nat × Nat × Int64 × Nat) : Bool := chk (.constantLong (ownN q.1) q.2.1 q.2.2.1) (q.2.2.2 + npv)
theorem chkKl_all : mvKl.all chkKl = true := by decide +kernel
def sNm (j : Nat) : String := if j = 0 then "AS_A" else "MEANS"
def chkS (q : Nat × Nat × Nat × Nat) : Bool := chk (.fieldLink (ownN q.1) q.2.1 "EvenWords$Forms" (sNm q.2.2.1) "[I") (q.2.2.2 + npv) && decide (q.2.2.1 < 2)
theorem chkS_all : mvS.all chkS = true := by decide +kernel
def chkCl (ci : Nat) : Bool := (u_ws (vC ci).1 (vC ci).2.1 (vC ci).2.2).all (fun w => decide (w ∈ lw_tbl) && goodWord w) && (decide (Cond.instantiable (vC ci).1 (vC ci).2.2 ∈ lw_tbl) && (goodWord (Cond.instantiable (vC ci).1 (vC ci).2.2) && (decide (Cond.initialized (vC ci).1 ∈ lw_tbl) && (goodWord (Cond.initialized (vC ci).1) && (decide ((vC ci).2.2 = nfOf ci))))))
theorem chkCl_0 : chkCl 0 = true := by decide +kernel
theorem chkCl_1 : chkCl 1 = true := by decide +kernel
theorem chkCl_2 : chkCl 2 = true := by decide +kernel
theorem chkCl_3 : chkCl 3 = true := by decide +kernel
theorem chkCl_4 : chkCl 4 = true := by decide +kernel
theorem chkCl_5 : chkCl 5 = true := by decide +kernel
theorem lt6 {P : Nat → Prop} (h0 : P 0) (h1 : P 1) (h2 : P 2) (h3 : P 3) (h4 : P 4) (h5 : P 5) {ci : Nat} (h : ci < 6) : P ci := by
  match ci, h with
  | 0, _ => exact h0
  | 1, _ => exact h1
  | 2, _ => exact h2
  | 3, _ => exact h3
  | 4, _ => exact h4
  | 5, _ => exact h5
  | n + 6, h => omega
theorem cl_ws {ci : Nat} (h : ci < 6) : ∀ w ∈ u_ws (vC ci).1 (vC ci).2.1 (vC ci).2.2, w ∈ gT := by
  have e : chkCl ci = true := lt6 (P := fun ci => chkCl ci = true) chkCl_0 chkCl_1 chkCl_2 chkCl_3 chkCl_4 chkCl_5 h
  simp only [chkCl, Bool.and_eq_true, decide_eq_true_eq, List.all_eq_true] at e
  exact fun w hw => gT_in (e.1 w hw).1 (e.1 w hw).2
theorem cl_inst {ci : Nat} (h : ci < 6) : Cond.instantiable (vC ci).1 (vC ci).2.2 ∈ gT ∧ Cond.initialized (vC ci).1 ∈ gT ∧ (vC ci).2.2 = nfOf ci ∧ vwCl[ci]? = some ((vC ci).1, (vC ci).2.1, (vC ci).2.2) := by
  have e : chkCl ci = true := lt6 (P := fun ci => chkCl ci = true) chkCl_0 chkCl_1 chkCl_2 chkCl_3 chkCl_4 chkCl_5 h
  simp only [chkCl, Bool.and_eq_true, decide_eq_true_eq, List.all_eq_true] at e
  exact ⟨gT_in e.2.1 e.2.2.1, gT_in e.2.2.2.1 e.2.2.2.2.1, e.2.2.2.2.2, lt6 (P := fun ci => vwCl[ci]? = some ((vC ci).1, (vC ci).2.1, (vC ci).2.2)) rfl rfl rfl rfl rfl rfl h⟩
theorem cl_ty {ci : Nat} (h : ci < 6) : ∀ k, k < (vC ci).2.2 → parseFieldDescriptor ((vC ci).2.1 k).2.2.1 = some (tyC ci k) := lt6 (P := fun ci => ∀ k, k < (vC ci).2.2 → parseFieldDescriptor ((vC ci).2.1 k).2.2.1 = some (tyC ci k)) tyX1_ok tyX2_ok tyX3_ok tyX4_ok tyX5_ok tyX6_ok h
theorem cl_nm {ci : Nat} (h : ci < 6) : ∀ a, a < (vC ci).2.2 → ∀ b, b < (vC ci).2.2 → a ≠ b → ((vC ci).2.1 a).2.1 ≠ ((vC ci).2.1 b).2.1 := lt6 (P := fun ci => ∀ a, a < (vC ci).2.2 → ∀ b, b < (vC ci).2.2 → a ≠ b → ((vC ci).2.1 a).2.1 ≠ ((vC ci).2.1 b).2.1) nmX1 nmX2 nmX3 nmX4 nmX5 nmX6 h
def chkT (ci k : Nat) : Bool := decide (((vC ci).2.1 k).1 = (vC ci).1 ∧ ((vC ci).2.1 k).2.2.2 = (ftOf ci k).2 ∧ defaultValue (tyC ci k) = vp_V (dfOf ci) k ∧ (vC ci).1 = ownN ci) && (match (ftOf ci k).1, tyC ci k with
  | 0, .int => true
  | 1, .boolean => true
  | 2, .object _ => true
  | 2, .array _ => true
  | _, _ => false)
theorem chkT_0 : ∀ k, k < nfOf 0 → chkT 0 k = true := by decide +kernel
theorem chkT_1 : ∀ k, k < nfOf 1 → chkT 1 k = true := by decide +kernel
theorem chkT_2 : ∀ k, k < nfOf 2 → chkT 2 k = true := by decide +kernel
theorem chkT_3 : ∀ k, k < nfOf 3 → chkT 3 k = true := by decide +kernel
theorem chkT_4 : ∀ k, k < nfOf 4 → chkT 4 k = true := by decide +kernel
theorem chkT_5 : ∀ k, k < nfOf 5 → chkT 5 k = true := by decide +kernel
theorem chkT_all {ci : Nat} (h : ci < 6) : ∀ k, k < nfOf ci → chkT ci k = true := lt6 (P := fun ci => ∀ k, k < nfOf ci → chkT ci k = true) chkT_0 chkT_1 chkT_2 chkT_3 chkT_4 chkT_5 h
theorem ft_ok {ci k : Nat} (h : ci < 6) (hk : k < nfOf ci) : ((vC ci).2.1 k).1 = (vC ci).1 ∧ ((vC ci).2.1 k).2.2.2 = (ftOf ci k).2 ∧ defaultValue (tyC ci k) = vp_V (dfOf ci) k ∧ (vC ci).1 = ownN ci := by
  have e := chkT_all h k hk
  simp only [chkT, Bool.and_eq_true, decide_eq_true_eq] at e
  exact e.1
/-- what may be put fits and stays as it is -/
theorem put_fits {M ci k : Nat} {v : Value} (h : ci < 6) (hk : k < nfOf ci) (hm : mayPut M ci k v = true) : narrow (tyC ci k) v = v ∧ fits (tyC ci k) v = true := by
  have e := chkT_all h k hk
  simp only [chkT, Bool.and_eq_true] at e
  have e2 := e.2
  simp only [mayPut, Bool.and_eq_true] at hm
  have m1 := hm.1
  generalize (ftOf ci k).1 = z at e2 m1
  generalize tyC ci k = ty at e2 ⊢
  split at m1
  · cases ty <;> first | (exact ⟨rfl, rfl⟩) | (simp at e2)
  · rename_i x
    simp only [Bool.or_eq_true, beq_iff_eq] at m1
    cases ty <;> first | (rcases m1 with rfl | rfl <;> exact ⟨by decide +kernel, by decide +kernel⟩) | (simp at e2)
  · cases ty <;> first | (exact ⟨rfl, rfl⟩) | (simp at e2)
  · cases m1
theorem fl_in {o i ci k : Nat} (h : mvFl o i = some (ci, k)) : ci < 6 ∧ k < nfOf ci ∧ (Cond.fieldLink (ownN o) i (vC ci).1 ((vC ci).2.1 k).2.1 ((vC ci).2.1 k).2.2.1) ∈ gT := by
  simp only [mvFl, Option.map_eq_some_iff] at h
  obtain ⟨q, hq, he⟩ := h
  have h1 := List.find?_some hq
  have h2 := List.all_eq_true.mp chkF_all q (List.mem_of_find?_eq_some hq)
  simp only [Bool.and_eq_true, beq_iff_eq] at h1
  cases he
  simp only [chkF, Bool.and_eq_true, decide_eq_true_eq] at h2
  rw [← h1.1, ← h1.2]
  exact ⟨h2.2.1, h2.2.2, chk_in h2.1⟩
theorem nl_in {o i ci : Nat} (h : mvNl o i = some ci) : ci < 6 ∧ (Cond.classLink (ownN o) i (vC ci).1) ∈ gT := by
  simp only [mvNl, Option.map_eq_some_iff] at h
  obtain ⟨q, hq, he⟩ := h
  have h1 := List.find?_some hq
  have h2 := List.all_eq_true.mp chkN_all q (List.mem_of_find?_eq_some hq)
  simp only [Bool.and_eq_true, beq_iff_eq] at h1
  cases he
  simp only [chkN, Bool.and_eq_true, decide_eq_true_eq] at h2
  rw [← h1.1, ← h1.2]
  exact ⟨h2.2, chk_in h2.1⟩
theorem ki_in {o i : Nat} {v : Int32} (h : mvKi o i = some v) : (Cond.constant (ownN o) i v) ∈ gT := by
  simp only [mvKi, Option.map_eq_some_iff] at h
  obtain ⟨q, hq, he⟩ := h
  have h1 := List.find?_some hq
  have h2 := List.all_eq_true.mp chkK_all q (List.mem_of_find?_eq_some hq)
  simp only [Bool.and_eq_true, beq_iff_eq] at h1
  cases he
  rw [← h1.1, ← h1.2]
  exact chk_in h2
theorem kli_in {o i : Nat} {v : Int64} (h : mvKli o i = some v) : (Cond.constantLong (ownN o) i v) ∈ gT := by
  simp only [mvKli, Option.map_eq_some_iff] at h
  obtain ⟨q, hq, he⟩ := h
  have h1 := List.find?_some hq
  have h2 := List.all_eq_true.mp chkKl_all q (List.mem_of_find?_eq_some hq)
  simp only [Bool.and_eq_true, beq_iff_eq] at h1
  cases he
  rw [← h1.1, ← h1.2]
  exact chk_in h2
theorem sl_in {o i j : Nat} (h : mvSl o i = some j) : j < 2 ∧ (Cond.fieldLink (ownN o) i "EvenWords$Forms" (sNm j) "[I") ∈ gT := by
  simp only [mvSl, Option.map_eq_some_iff] at h
  obtain ⟨q, hq, he⟩ := h
  have h1 := List.find?_some hq
  have h2 := List.all_eq_true.mp chkS_all q (List.mem_of_find?_eq_some hq)
  simp only [Bool.and_eq_true, beq_iff_eq] at h1
  cases he
  simp only [chkS, Bool.and_eq_true, decide_eq_true_eq] at h2
  rw [← h1.1, ← h1.2]
  exact ⟨h2.2, chk_in h2.1⟩
theorem ob_in {o i : Nat} (h : mvObl o i = true) : (Cond.methodLink (ownN o) i objectInit) ∈ gT := by
  simp only [mvObl, List.any_eq_true, Bool.and_eq_true, beq_iff_eq] at h
  obtain ⟨q, hq, h1, h2⟩ := h
  have h3 := List.all_eq_true.mp chkOb_all q hq
  rw [← h1, ← h2]
  exact chk_in h3
/-- a call's link: plain, or of a nest mate (then it is a constructor) -/
theorem cl_in {o i k : Nat} (h : mvCl o i = some k) : ((Cond.methodLink (ownN o) i (yOf k)) ∈ gT ∨ (isInit k = true ∧ ∃ q ∈ mvC, q.2.2.2.1 = true ∧ nestW q = .methodLinkNest (ownN o) i (yOf k) "EvenWords")) := by
  simp only [mvCl, Option.map_eq_some_iff] at h
  obtain ⟨q, hq, he⟩ := h
  have h1 := List.find?_some hq
  have hm := List.mem_of_find?_eq_some hq
  have h2 := chkC_all hm
  simp only [Bool.and_eq_true, beq_iff_eq] at h1
  cases he
  simp only [chkC, Bool.and_eq_true, decide_eq_true_eq] at h2
  by_cases hb : q.2.2.2.1 = true
  · rw [if_pos hb] at h2
    simp only [Bool.and_eq_true, decide_eq_true_eq] at h2
    exact Or.inr ⟨h2.2.2, q, hm, hb, by rw [nestW, h1.1, h1.2]⟩
  · rw [if_neg hb] at h2
    rw [← h1.1, ← h1.2]
    exact Or.inl (chk_in h2.2)
