def npv : Nat := 16
def yOf (k : Nat) : MethodName := mvY.getD k ⟨"", "", ""⟩
def ownN (o : Nat) : String := mvOwn.getD o ""
def gT : List Cond := lw_tbl.filter goodWord
theorem gT_in {w : Cond} (h : w ∈ lw_tbl) (g : goodWord w = true) : w ∈ gT := List.mem_filter.mpr ⟨h, g⟩
theorem gT_goodIn {ws : List Cond} (h : ∀ w ∈ ws, w ∈ gT) : GoodIn gT ws := fun w hw => ⟨h w hw, good_of_word (List.mem_filter.mp (h w hw)).2⟩
def wsK (k : Nat) : List Cond := .code (yOf k) (bOf k) (mlOf k) (rtOf k) :: gT
def chk (w : Cond) (i : Nat) : Bool := decide (lw_tbl[i]? = some w) && goodWord w
theorem chk_in {w : Cond} {i : Nat} (h : chk w i = true) : w ∈ gT := by
  simp only [chk, Bool.and_eq_true, decide_eq_true_eq] at h
  exact gT_in (List.mem_of_getElem? h.1) h.2
/-- what the tables say of method k -/
def mwOK (k : Nat) : Prop := (Cond.code (yOf k) (bOf k) (mlOf k) (rtOf k)) ∈ gT ∧ (if stOf k then Cond.static (yOf k) else Cond.instanceMethod (yOf k)) ∈ gT ∧ (isInit k = false → stOf k = false → (Cond.selects (yOf k).cls (yOf k) (yOf k)) ∈ gT) ∧ (Cond.initialized (yOf k).cls) ∈ gT ∧ plainName (yOf k).cls = true ∧ ((yOf k).cls ≠ "java/lang/invoke/MethodHandle" ∧ (yOf k).cls ≠ "java/lang/invoke/VarHandle" ∧ (parseMethodDescriptor (yOf k).desc).map (fun d => d.parameters.length) = some (if stOf k then naOf k else naOf k - 1)) ∧ ((yOf k).cls = ownN (oOf k) ∧ (isInit k = true → (yOf k).name = "<init>") ∧ mlOf k ≤ 40 ∧ naOf k ≤ mlOf k ∧ (stOf k = false → 1 ≤ naOf k) ∧ (isInit k = true → rtOf k = none))
theorem mwOK_mk {k n : Nat} {y : MethodName} (hy : yOf k = y) (h1 : (Cond.code y (bOf k) (mlOf k) (rtOf k)) ∈ gT) (h2 : (if stOf k then Cond.static y else Cond.instanceMethod y) ∈ gT) (h3 : isInit k = false → stOf k = false → (Cond.selects y.cls y y) ∈ gT) (h4 : (Cond.initialized y.cls) ∈ gT) (h5 : plainName y.cls = true) (h6 : y.cls ≠ "java/lang/invoke/MethodHandle" ∧ y.cls ≠ "java/lang/invoke/VarHandle") (h7 : (parseMethodDescriptor y.desc).map (fun d => d.parameters.length) = some n) (h8 : (if stOf k then naOf k else naOf k - 1) = n) (h9 : y.cls = ownN (oOf k) ∧ (isInit k = true → y.name = "<init>") ∧ mlOf k ≤ 40 ∧ naOf k ≤ mlOf k ∧ (stOf k = false → 1 ≤ naOf k) ∧ (isInit k = true → rtOf k = none)) : mwOK k := by
  subst hy
  exact ⟨h1, h2, h3, h4, h5, ⟨h6.1, h6.2, by rw [h7, h8]⟩, h9⟩
theorem pmd_0 : (parseMethodDescriptor "(II)I").map (fun d => d.parameters.length) = some 2 := by decide +kernel
theorem pmd_1 : (parseMethodDescriptor "(I)I").map (fun d => d.parameters.length) = some 1 := by decide +kernel
theorem pmd_2 : (parseMethodDescriptor "(II)Z").map (fun d => d.parameters.length) = some 2 := by decide +kernel
theorem pmd_3 : (parseMethodDescriptor "()V").map (fun d => d.parameters.length) = some 0 := by decide +kernel
theorem pmd_4 : (parseMethodDescriptor "(LEvenWords$Wire;I)V").map (fun d => d.parameters.length) = some 2 := by decide +kernel
theorem pmd_5 : (parseMethodDescriptor "(LEvenWords$Orders;II)V").map (fun d => d.parameters.length) = some 3 := by decide +kernel
theorem pmd_6 : (parseMethodDescriptor "(I)V").map (fun d => d.parameters.length) = some 1 := by decide +kernel
theorem pmd_7 : (parseMethodDescriptor "(LEvenWords$Wire;II)V").map (fun d => d.parameters.length) = some 3 := by decide +kernel
theorem pmd_8 : (parseMethodDescriptor "()I").map (fun d => d.parameters.length) = some 0 := by decide +kernel
theorem pmd_9 : (parseMethodDescriptor "(LEvenWords$Walk;)V").map (fun d => d.parameters.length) = some 1 := by decide +kernel
theorem pmd_10 : (parseMethodDescriptor "(LEvenWords$Wire;LEvenWords$Wire;)V").map (fun d => d.parameters.length) = some 2 := by decide +kernel
theorem pmd_11 : (parseMethodDescriptor "(I)Z").map (fun d => d.parameters.length) = some 1 := by decide +kernel
theorem pmd_12 : (parseMethodDescriptor "(IIII)I").map (fun d => d.parameters.length) = some 4 := by decide +kernel
theorem pmd_13 : (parseMethodDescriptor "(III)I").map (fun d => d.parameters.length) = some 3 := by decide +kernel
theorem pmd_14 : (parseMethodDescriptor "([II)I").map (fun d => d.parameters.length) = some 2 := by decide +kernel
theorem pmd_15 : (parseMethodDescriptor "(LEvenWords;)J").map (fun d => d.parameters.length) = some 1 := by decide +kernel
theorem pmd_16 : (parseMethodDescriptor "(LEvenWords;)Z").map (fun d => d.parameters.length) = some 1 := by decide +kernel
theorem pmd_17 : (parseMethodDescriptor "(LEvenWords;IJ)Z").map (fun d => d.parameters.length) = some 3 := by decide +kernel
theorem pmd_18 : (parseMethodDescriptor "(LEvenWords;I)I").map (fun d => d.parameters.length) = some 2 := by decide +kernel
theorem pmd_19 : (parseMethodDescriptor "([I)Z").map (fun d => d.parameters.length) = some 1 := by decide +kernel
theorem mw_0 : mwOK 0 := by
  refine mwOK_mk (y := (⟨"EvenWords$Forms", "formDue", "(II)I"⟩ : MethodName)) (n := 2) rfl ?_ ?_ ?_ ?_ (by decide +kernel) (by decide +kernel) pmd_0 rfl (by decide +kernel)
  · exact chk_in (i := 235) (by decide +kernel)
  · exact chk_in (i := 234) (by decide +kernel)
  · exact fun h1 h2 => absurd h2 (by decide +kernel)
  · exact chk_in (i := 22) (by decide +kernel)
theorem mw_1 : mwOK 1 := by
  refine mwOK_mk (y := (⟨"EvenWords$Forms", "meaning", "(I)I"⟩ : MethodName)) (n := 1) rfl ?_ ?_ ?_ ?_ (by decide +kernel) (by decide +kernel) pmd_1 rfl (by decide +kernel)
  · exact chk_in (i := 338) (by decide +kernel)
  · exact chk_in (i := 337) (by decide +kernel)
  · exact fun h1 h2 => absurd h2 (by decide +kernel)
  · exact chk_in (i := 22) (by decide +kernel)
theorem mw_2 : mwOK 2 := by
  refine mwOK_mk (y := (⟨"EvenWords$Forms", "isRight", "(II)Z"⟩ : MethodName)) (n := 2) rfl ?_ ?_ ?_ ?_ (by decide +kernel) (by decide +kernel) pmd_2 rfl (by decide +kernel)
  · exact chk_in (i := 343) (by decide +kernel)
  · exact chk_in (i := 342) (by decide +kernel)
  · exact fun h1 h2 => absurd h2 (by decide +kernel)
  · exact chk_in (i := 22) (by decide +kernel)
theorem mw_3 : mwOK 3 := by
  refine mwOK_mk (y := (⟨"EvenWords$Forms", "sumBehind", "(II)I"⟩ : MethodName)) (n := 2) rfl ?_ ?_ ?_ ?_ (by decide +kernel) (by decide +kernel) pmd_0 rfl (by decide +kernel)
  · exact chk_in (i := 240) (by decide +kernel)
  · exact chk_in (i := 239) (by decide +kernel)
  · exact fun h1 h2 => absurd h2 (by decide +kernel)
  · exact chk_in (i := 22) (by decide +kernel)
theorem mw_4 : mwOK 4 := by
  refine mwOK_mk (y := (⟨"EvenWords$Orders", "<init>", "()V"⟩ : MethodName)) (n := 0) rfl ?_ ?_ ?_ ?_ (by decide +kernel) (by decide +kernel) pmd_3 rfl (by decide +kernel)
  · exact chk_in (i := 142) (by decide +kernel)
  · exact chk_in (i := 141) (by decide +kernel)
  · exact fun h1 h2 => absurd h1 (by decide +kernel)
  · exact chk_in (i := 21) (by decide +kernel)
theorem mw_5 : mwOK 5 := by
  refine mwOK_mk (y := (⟨"EvenWords$Orders", "search", "(LEvenWords$Wire;I)V"⟩ : MethodName)) (n := 2) rfl ?_ ?_ ?_ ?_ (by decide +kernel) (by decide +kernel) pmd_4 rfl (by decide +kernel)
  · exact chk_in (i := 460) (by decide +kernel)
  · exact chk_in (i := 458) (by decide +kernel)
  · exact fun _ _ => chk_in (i := 459) (by decide +kernel)
  · exact chk_in (i := 21) (by decide +kernel)
theorem mw_6 : mwOK 6 := by
  refine mwOK_mk (y := (⟨"EvenWords$Orders", "walkAhead", "(LEvenWords$Wire;I)V"⟩ : MethodName)) (n := 2) rfl ?_ ?_ ?_ ?_ (by decide +kernel) (by decide +kernel) pmd_4 rfl (by decide +kernel)
  · exact chk_in (i := 464) (by decide +kernel)
  · exact chk_in (i := 463) (by decide +kernel)
  · exact fun _ _ => chk_in (i := 7) (by decide +kernel)
  · exact chk_in (i := 21) (by decide +kernel)
theorem mw_7 : mwOK 7 := by
  refine mwOK_mk (y := (⟨"EvenWords$Orders", "bestAt", "(I)I"⟩ : MethodName)) (n := 1) rfl ?_ ?_ ?_ ?_ (by decide +kernel) (by decide +kernel) pmd_1 rfl (by decide +kernel)
  · exact chk_in (i := 479) (by decide +kernel)
  · exact chk_in (i := 477) (by decide +kernel)
  · exact fun _ _ => chk_in (i := 478) (by decide +kernel)
  · exact chk_in (i := 21) (by decide +kernel)
theorem mw_8 : mwOK 8 := by
  refine mwOK_mk (y := (⟨"EvenWords$Orders", "arrange", "(LEvenWords$Orders;II)V"⟩ : MethodName)) (n := 3) rfl ?_ ?_ ?_ ?_ (by decide +kernel) (by decide +kernel) pmd_5 rfl (by decide +kernel)
  · exact chk_in (i := 469) (by decide +kernel)
  · exact chk_in (i := 468) (by decide +kernel)
  · exact fun h1 h2 => absurd h2 (by decide +kernel)
  · exact chk_in (i := 21) (by decide +kernel)
theorem mw_9 : mwOK 9 := by
  refine mwOK_mk (y := (⟨"EvenWords$Orders", "settle", "(I)V"⟩ : MethodName)) (n := 1) rfl ?_ ?_ ?_ ?_ (by decide +kernel) (by decide +kernel) pmd_6 rfl (by decide +kernel)
  · exact chk_in (i := 473) (by decide +kernel)
  · exact chk_in (i := 472) (by decide +kernel)
  · exact fun _ _ => chk_in (i := 8) (by decide +kernel)
  · exact chk_in (i := 21) (by decide +kernel)
theorem mw_10 : mwOK 10 := by
  refine mwOK_mk (y := (⟨"EvenWords$Reading", "<init>", "()V"⟩ : MethodName)) (n := 0) rfl ?_ ?_ ?_ ?_ (by decide +kernel) (by decide +kernel) pmd_3 rfl (by decide +kernel)
  · exact chk_in (i := 73) (by decide +kernel)
  · exact chk_in (i := 72) (by decide +kernel)
  · exact fun h1 h2 => absurd h1 (by decide +kernel)
  · exact chk_in (i := 19) (by decide +kernel)
theorem mw_11 : mwOK 11 := by
  refine mwOK_mk (y := (⟨"EvenWords$Reading", "load", "(LEvenWords$Wire;II)V"⟩ : MethodName)) (n := 3) rfl ?_ ?_ ?_ ?_ (by decide +kernel) (by decide +kernel) pmd_7 rfl (by decide +kernel)
  · exact chk_in (i := 313) (by decide +kernel)
  · exact chk_in (i := 311) (by decide +kernel)
  · exact fun _ _ => chk_in (i := 312) (by decide +kernel)
  · exact chk_in (i := 19) (by decide +kernel)
theorem mw_12 : mwOK 12 := by
  refine mwOK_mk (y := (⟨"EvenWords$Reading", "pieceAt", "(I)I"⟩ : MethodName)) (n := 1) rfl ?_ ?_ ?_ ?_ (by decide +kernel) (by decide +kernel) pmd_1 rfl (by decide +kernel)
  · exact chk_in (i := 327) (by decide +kernel)
  · exact chk_in (i := 325) (by decide +kernel)
  · exact fun _ _ => chk_in (i := 326) (by decide +kernel)
  · exact chk_in (i := 19) (by decide +kernel)
theorem mw_13 : mwOK 13 := by
  refine mwOK_mk (y := (⟨"EvenWords$Reading", "sumAhead", "(I)I"⟩ : MethodName)) (n := 1) rfl ?_ ?_ ?_ ?_ (by decide +kernel) (by decide +kernel) pmd_1 rfl (by decide +kernel)
  · exact chk_in (i := 441) (by decide +kernel)
  · exact chk_in (i := 439) (by decide +kernel)
  · exact fun _ _ => chk_in (i := 440) (by decide +kernel)
  · exact chk_in (i := 19) (by decide +kernel)
theorem mw_14 : mwOK 14 := by
  refine mwOK_mk (y := (⟨"EvenWords$Reading", "sumBehind", "(I)I"⟩ : MethodName)) (n := 1) rfl ?_ ?_ ?_ ?_ (by decide +kernel) (by decide +kernel) pmd_1 rfl (by decide +kernel)
  · exact chk_in (i := 451) (by decide +kernel)
  · exact chk_in (i := 449) (by decide +kernel)
  · exact fun _ _ => chk_in (i := 450) (by decide +kernel)
  · exact chk_in (i := 19) (by decide +kernel)
theorem mw_15 : mwOK 15 := by
  refine mwOK_mk (y := (⟨"EvenWords$Reading", "breachesAt", "(I)I"⟩ : MethodName)) (n := 1) rfl ?_ ?_ ?_ ?_ (by decide +kernel) (by decide +kernel) pmd_1 rfl (by decide +kernel)
  · exact chk_in (i := 447) (by decide +kernel)
  · exact chk_in (i := 445) (by decide +kernel)
  · exact fun _ _ => chk_in (i := 446) (by decide +kernel)
  · exact chk_in (i := 19) (by decide +kernel)
theorem mw_16 : mwOK 16 := by
  refine mwOK_mk (y := (⟨"EvenWords$Reading", "check", "()V"⟩ : MethodName)) (n := 0) rfl ?_ ?_ ?_ ?_ (by decide +kernel) (by decide +kernel) pmd_3 rfl (by decide +kernel)
  · exact chk_in (i := 319) (by decide +kernel)
  · exact chk_in (i := 317) (by decide +kernel)
  · exact fun _ _ => chk_in (i := 318) (by decide +kernel)
  · exact chk_in (i := 19) (by decide +kernel)
theorem mw_17 : mwOK 17 := by
  refine mwOK_mk (y := (⟨"EvenWords$Reading", "blame", "()V"⟩ : MethodName)) (n := 0) rfl ?_ ?_ ?_ ?_ (by decide +kernel) (by decide +kernel) pmd_3 rfl (by decide +kernel)
  · exact chk_in (i := 357) (by decide +kernel)
  · exact chk_in (i := 355) (by decide +kernel)
  · exact fun _ _ => chk_in (i := 356) (by decide +kernel)
  · exact chk_in (i := 19) (by decide +kernel)
theorem mw_18 : mwOK 18 := by
  refine mwOK_mk (y := (⟨"EvenWords$Reading", "isRightTurned", "(II)Z"⟩ : MethodName)) (n := 2) rfl ?_ ?_ ?_ ?_ (by decide +kernel) (by decide +kernel) pmd_2 rfl (by decide +kernel)
  · exact chk_in (i := 361) (by decide +kernel)
  · exact chk_in (i := 360) (by decide +kernel)
  · exact fun _ _ => chk_in (i := 5) (by decide +kernel)
  · exact chk_in (i := 19) (by decide +kernel)
theorem mw_19 : mwOK 19 := by
  refine mwOK_mk (y := (⟨"EvenWords$Reading", "late", "()I"⟩ : MethodName)) (n := 0) rfl ?_ ?_ ?_ ?_ (by decide +kernel) (by decide +kernel) pmd_8 rfl (by decide +kernel)
  · exact chk_in (i := 369) (by decide +kernel)
  · exact chk_in (i := 367) (by decide +kernel)
  · exact fun _ _ => chk_in (i := 368) (by decide +kernel)
  · exact chk_in (i := 19) (by decide +kernel)
theorem mw_20 : mwOK 20 := by
  refine mwOK_mk (y := (⟨"EvenWords$Walk", "<init>", "()V"⟩ : MethodName)) (n := 0) rfl ?_ ?_ ?_ ?_ (by decide +kernel) (by decide +kernel) pmd_3 rfl (by decide +kernel)
  · exact chk_in (i := 79) (by decide +kernel)
  · exact chk_in (i := 78) (by decide +kernel)
  · exact fun h1 h2 => absurd h1 (by decide +kernel)
  · exact chk_in (i := 20) (by decide +kernel)
theorem mw_21 : mwOK 21 := by
  refine mwOK_mk (y := (⟨"EvenWords$Walk", "start", "(I)V"⟩ : MethodName)) (n := 1) rfl ?_ ?_ ?_ ?_ (by decide +kernel) (by decide +kernel) pmd_6 rfl (by decide +kernel)
  · exact chk_in (i := 323) (by decide +kernel)
  · exact chk_in (i := 321) (by decide +kernel)
  · exact fun _ _ => chk_in (i := 322) (by decide +kernel)
  · exact chk_in (i := 20) (by decide +kernel)
theorem mw_22 : mwOK 22 := by
  refine mwOK_mk (y := (⟨"EvenWords$Walk", "become", "(LEvenWords$Walk;)V"⟩ : MethodName)) (n := 1) rfl ?_ ?_ ?_ ?_ (by decide +kernel) (by decide +kernel) pmd_9 rfl (by decide +kernel)
  · exact chk_in (i := 365) (by decide +kernel)
  · exact chk_in (i := 363) (by decide +kernel)
  · exact fun _ _ => chk_in (i := 364) (by decide +kernel)
  · exact chk_in (i := 20) (by decide +kernel)
theorem mw_23 : mwOK 23 := by
  refine mwOK_mk (y := (⟨"EvenWords$Walk", "step", "(I)V"⟩ : MethodName)) (n := 1) rfl ?_ ?_ ?_ ?_ (by decide +kernel) (by decide +kernel) pmd_6 rfl (by decide +kernel)
  · exact chk_in (i := 349) (by decide +kernel)
  · exact chk_in (i := 347) (by decide +kernel)
  · exact fun _ _ => chk_in (i := 348) (by decide +kernel)
  · exact chk_in (i := 20) (by decide +kernel)
theorem mw_24 : mwOK 24 := by
  refine mwOK_mk (y := (⟨"EvenWords$Walk", "take", "(I)I"⟩ : MethodName)) (n := 1) rfl ?_ ?_ ?_ ?_ (by decide +kernel) (by decide +kernel) pmd_1 rfl (by decide +kernel)
  · exact chk_in (i := 331) (by decide +kernel)
  · exact chk_in (i := 329) (by decide +kernel)
  · exact fun _ _ => chk_in (i := 330) (by decide +kernel)
  · exact chk_in (i := 20) (by decide +kernel)
theorem mw_25 : mwOK 25 := by
  refine mwOK_mk (y := (⟨"EvenWords$Walk", "formBreach", "(I)I"⟩ : MethodName)) (n := 1) rfl ?_ ?_ ?_ ?_ (by decide +kernel) (by decide +kernel) pmd_1 rfl (by decide +kernel)
  · exact chk_in (i := 335) (by decide +kernel)
  · exact chk_in (i := 334) (by decide +kernel)
  · exact fun _ _ => chk_in (i := 4) (by decide +kernel)
  · exact chk_in (i := 20) (by decide +kernel)
theorem mw_26 : mwOK 26 := by
  refine mwOK_mk (y := (⟨"EvenWords$Wire", "<init>", "()V"⟩ : MethodName)) (n := 0) rfl ?_ ?_ ?_ ?_ (by decide +kernel) (by decide +kernel) pmd_3 rfl (by decide +kernel)
  · exact chk_in (i := 37) (by decide +kernel)
  · exact chk_in (i := 36) (by decide +kernel)
  · exact fun h1 h2 => absurd h1 (by decide +kernel)
  · exact chk_in (i := 18) (by decide +kernel)
theorem mw_27 : mwOK 27 := by
  refine mwOK_mk (y := (⟨"EvenWords$Wire", "empty", "()V"⟩ : MethodName)) (n := 0) rfl ?_ ?_ ?_ ?_ (by decide +kernel) (by decide +kernel) pmd_3 rfl (by decide +kernel)
  · exact chk_in (i := 286) (by decide +kernel)
  · exact chk_in (i := 284) (by decide +kernel)
  · exact fun _ _ => chk_in (i := 285) (by decide +kernel)
  · exact chk_in (i := 18) (by decide +kernel)
theorem mw_28 : mwOK 28 := by
  refine mwOK_mk (y := (⟨"EvenWords$Wire", "carry", "(LEvenWords$Wire;LEvenWords$Wire;)V"⟩ : MethodName)) (n := 2) rfl ?_ ?_ ?_ ?_ (by decide +kernel) (by decide +kernel) pmd_10 rfl (by decide +kernel)
  · exact chk_in (i := 228) (by decide +kernel)
  · exact chk_in (i := 227) (by decide +kernel)
  · exact fun h1 h2 => absurd h2 (by decide +kernel)
  · exact chk_in (i := 18) (by decide +kernel)
theorem mw_29 : mwOK 29 := by
  refine mwOK_mk (y := (⟨"EvenWords$Wire", "send", "(I)I"⟩ : MethodName)) (n := 1) rfl ?_ ?_ ?_ ?_ (by decide +kernel) (by decide +kernel) pmd_1 rfl (by decide +kernel)
  · exact chk_in (i := 232) (by decide +kernel)
  · exact chk_in (i := 230) (by decide +kernel)
  · exact fun _ _ => chk_in (i := 231) (by decide +kernel)
  · exact chk_in (i := 18) (by decide +kernel)
theorem mw_30 : mwOK 30 := by
  refine mwOK_mk (y := (⟨"EvenWords$Wire", "noteMark", "(I)V"⟩ : MethodName)) (n := 1) rfl ?_ ?_ ?_ ?_ (by decide +kernel) (by decide +kernel) pmd_6 rfl (by decide +kernel)
  · exact chk_in (i := 250) (by decide +kernel)
  · exact chk_in (i := 249) (by decide +kernel)
  · exact fun _ _ => chk_in (i := 3) (by decide +kernel)
  · exact chk_in (i := 18) (by decide +kernel)
theorem mw_31 : mwOK 31 := by
  refine mwOK_mk (y := (⟨"EvenWords$Wire", "markSentLately", "(I)I"⟩ : MethodName)) (n := 1) rfl ?_ ?_ ?_ ?_ (by decide +kernel) (by decide +kernel) pmd_1 rfl (by decide +kernel)
  · exact chk_in (i := 298) (by decide +kernel)
  · exact chk_in (i := 296) (by decide +kernel)
  · exact fun _ _ => chk_in (i := 297) (by decide +kernel)
  · exact chk_in (i := 18) (by decide +kernel)
theorem mw_32 : mwOK 32 := by
  refine mwOK_mk (y := (⟨"EvenWords$Wire", "bits", "()I"⟩ : MethodName)) (n := 0) rfl ?_ ?_ ?_ ?_ (by decide +kernel) (by decide +kernel) pmd_8 rfl (by decide +kernel)
  · exact chk_in (i := 266) (by decide +kernel)
  · exact chk_in (i := 264) (by decide +kernel)
  · exact fun _ _ => chk_in (i := 265) (by decide +kernel)
  · exact chk_in (i := 18) (by decide +kernel)
theorem mw_33 : mwOK 33 := by
  refine mwOK_mk (y := (⟨"EvenWords$Wire", "hasBit", "(I)Z"⟩ : MethodName)) (n := 1) rfl ?_ ?_ ?_ ?_ (by decide +kernel) (by decide +kernel) pmd_11 rfl (by decide +kernel)
  · exact chk_in (i := 262) (by decide +kernel)
  · exact chk_in (i := 260) (by decide +kernel)
  · exact fun _ _ => chk_in (i := 261) (by decide +kernel)
  · exact chk_in (i := 18) (by decide +kernel)
theorem mw_34 : mwOK 34 := by
  refine mwOK_mk (y := (⟨"EvenWords$Wire", "bitAt", "(I)I"⟩ : MethodName)) (n := 1) rfl ?_ ?_ ?_ ?_ (by decide +kernel) (by decide +kernel) pmd_1 rfl (by decide +kernel)
  · exact chk_in (i := 278) (by decide +kernel)
  · exact chk_in (i := 276) (by decide +kernel)
  · exact fun _ _ => chk_in (i := 277) (by decide +kernel)
  · exact chk_in (i := 18) (by decide +kernel)
theorem mw_35 : mwOK 35 := by
  refine mwOK_mk (y := (⟨"EvenWords$Wire", "turn", "(I)V"⟩ : MethodName)) (n := 1) rfl ?_ ?_ ?_ ?_ (by decide +kernel) (by decide +kernel) pmd_6 rfl (by decide +kernel)
  · exact chk_in (i := 270) (by decide +kernel)
  · exact chk_in (i := 268) (by decide +kernel)
  · exact fun _ _ => chk_in (i := 269) (by decide +kernel)
  · exact chk_in (i := 18) (by decide +kernel)
theorem mw_36 : mwOK 36 := by
  refine mwOK_mk (y := (⟨"EvenWords$Wire", "placeOf", "(I)I"⟩ : MethodName)) (n := 1) rfl ?_ ?_ ?_ ?_ (by decide +kernel) (by decide +kernel) pmd_1 rfl (by decide +kernel)
  · exact chk_in (i := 274) (by decide +kernel)
  · exact chk_in (i := 273) (by decide +kernel)
  · exact fun h1 h2 => absurd h2 (by decide +kernel)
  · exact chk_in (i := 18) (by decide +kernel)
theorem mw_37 : mwOK 37 := by
  refine mwOK_mk (y := (⟨"EvenWords$Wire", "ones", "()I"⟩ : MethodName)) (n := 0) rfl ?_ ?_ ?_ ?_ (by decide +kernel) (by decide +kernel) pmd_8 rfl (by decide +kernel)
  · exact chk_in (i := 393) (by decide +kernel)
  · exact chk_in (i := 391) (by decide +kernel)
  · exact fun _ _ => chk_in (i := 392) (by decide +kernel)
  · exact chk_in (i := 18) (by decide +kernel)
theorem mw_38 : mwOK 38 := by
  refine mwOK_mk (y := (⟨"EvenWords$Wire", "turned", "()I"⟩ : MethodName)) (n := 0) rfl ?_ ?_ ?_ ?_ (by decide +kernel) (by decide +kernel) pmd_8 rfl (by decide +kernel)
  · exact chk_in (i := 398) (by decide +kernel)
  · exact chk_in (i := 396) (by decide +kernel)
  · exact fun _ _ => chk_in (i := 397) (by decide +kernel)
  · exact chk_in (i := 18) (by decide +kernel)
theorem mw_39 : mwOK 39 := by
  refine mwOK_mk (y := (⟨"EvenWords$Wire", "marksSent", "()I"⟩ : MethodName)) (n := 0) rfl ?_ ?_ ?_ ?_ (by decide +kernel) (by decide +kernel) pmd_8 rfl (by decide +kernel)
  · exact chk_in (i := 409) (by decide +kernel)
  · exact chk_in (i := 407) (by decide +kernel)
  · exact fun _ _ => chk_in (i := 408) (by decide +kernel)
  · exact chk_in (i := 18) (by decide +kernel)
theorem mw_40 : mwOK 40 := by
  refine mwOK_mk (y := (⟨"EvenWords", "<init>", "()V"⟩ : MethodName)) (n := 0) rfl ?_ ?_ ?_ ?_ (by decide +kernel) (by decide +kernel) pmd_3 rfl (by decide +kernel)
  · exact chk_in (i := 29) (by decide +kernel)
  · exact chk_in (i := 28) (by decide +kernel)
  · exact fun h1 h2 => absurd h1 (by decide +kernel)
  · exact chk_in (i := 17) (by decide +kernel)
theorem mw_41 : mwOK 41 := by
  refine mwOK_mk (y := (⟨"EvenWords", "type", "(I)I"⟩ : MethodName)) (n := 1) rfl ?_ ?_ ?_ ?_ (by decide +kernel) (by decide +kernel) pmd_1 rfl (by decide +kernel)
  · exact chk_in (i := 505) (by decide +kernel)
  · exact chk_in (i := 503) (by decide +kernel)
  · exact fun _ _ => chk_in (i := 504) (by decide +kernel)
  · exact chk_in (i := 17) (by decide +kernel)
theorem mw_42 : mwOK 42 := by
  refine mwOK_mk (y := (⟨"EvenWords", "clear", "()I"⟩ : MethodName)) (n := 0) rfl ?_ ?_ ?_ ?_ (by decide +kernel) (by decide +kernel) pmd_8 rfl (by decide +kernel)
  · exact chk_in (i := 209) (by decide +kernel)
  · exact chk_in (i := 207) (by decide +kernel)
  · exact fun _ _ => chk_in (i := 208) (by decide +kernel)
  · exact chk_in (i := 17) (by decide +kernel)
theorem mw_43 : mwOK 43 := by
  refine mwOK_mk (y := (⟨"EvenWords", "tells", "()I"⟩ : MethodName)) (n := 0) rfl ?_ ?_ ?_ ?_ (by decide +kernel) (by decide +kernel) pmd_8 rfl (by decide +kernel)
  · exact chk_in (i := 509) (by decide +kernel)
  · exact chk_in (i := 507) (by decide +kernel)
  · exact fun _ _ => chk_in (i := 508) (by decide +kernel)
  · exact chk_in (i := 17) (by decide +kernel)
theorem mw_44 : mwOK 44 := by
  refine mwOK_mk (y := (⟨"EvenWords", "sends", "(I)I"⟩ : MethodName)) (n := 1) rfl ?_ ?_ ?_ ?_ (by decide +kernel) (by decide +kernel) pmd_1 rfl (by decide +kernel)
  · exact chk_in (i := 213) (by decide +kernel)
  · exact chk_in (i := 211) (by decide +kernel)
  · exact fun _ _ => chk_in (i := 212) (by decide +kernel)
  · exact chk_in (i := 17) (by decide +kernel)
theorem mw_45 : mwOK 45 := by
  refine mwOK_mk (y := (⟨"EvenWords", "marks", "(I)I"⟩ : MethodName)) (n := 1) rfl ?_ ?_ ?_ ?_ (by decide +kernel) (by decide +kernel) pmd_1 rfl (by decide +kernel)
  · exact chk_in (i := 254) (by decide +kernel)
  · exact chk_in (i := 252) (by decide +kernel)
  · exact fun _ _ => chk_in (i := 253) (by decide +kernel)
  · exact chk_in (i := 17) (by decide +kernel)
theorem mw_46 : mwOK 46 := by
  refine mwOK_mk (y := (⟨"EvenWords", "flips", "(I)I"⟩ : MethodName)) (n := 1) rfl ?_ ?_ ?_ ?_ (by decide +kernel) (by decide +kernel) pmd_1 rfl (by decide +kernel)
  · exact chk_in (i := 258) (by decide +kernel)
  · exact chk_in (i := 256) (by decide +kernel)
  · exact fun _ _ => chk_in (i := 257) (by decide +kernel)
  · exact chk_in (i := 17) (by decide +kernel)
theorem mw_47 : mwOK 47 := by
  refine mwOK_mk (y := (⟨"EvenWords", "clears", "()I"⟩ : MethodName)) (n := 0) rfl ?_ ?_ ?_ ?_ (by decide +kernel) (by decide +kernel) pmd_8 rfl (by decide +kernel)
  · exact chk_in (i := 282) (by decide +kernel)
  · exact chk_in (i := 280) (by decide +kernel)
  · exact fun _ _ => chk_in (i := 281) (by decide +kernel)
  · exact chk_in (i := 17) (by decide +kernel)
theorem mw_48 : mwOK 48 := by
  refine mwOK_mk (y := (⟨"EvenWords", "undo", "()I"⟩ : MethodName)) (n := 0) rfl ?_ ?_ ?_ ?_ (by decide +kernel) (by decide +kernel) pmd_8 rfl (by decide +kernel)
  · exact chk_in (i := 290) (by decide +kernel)
  · exact chk_in (i := 288) (by decide +kernel)
  · exact fun _ _ => chk_in (i := 289) (by decide +kernel)
  · exact chk_in (i := 17) (by decide +kernel)
theorem mw_49 : mwOK 49 := by
  refine mwOK_mk (y := (⟨"EvenWords", "bit", "(I)I"⟩ : MethodName)) (n := 1) rfl ?_ ?_ ?_ ?_ (by decide +kernel) (by decide +kernel) pmd_1 rfl (by decide +kernel)
  · exact chk_in (i := 428) (by decide +kernel)
  · exact chk_in (i := 426) (by decide +kernel)
  · exact fun _ _ => chk_in (i := 427) (by decide +kernel)
  · exact chk_in (i := 17) (by decide +kernel)
theorem mw_50 : mwOK 50 := by
  refine mwOK_mk (y := (⟨"EvenWords", "word", "(I)I"⟩ : MethodName)) (n := 1) rfl ?_ ?_ ?_ ?_ (by decide +kernel) (by decide +kernel) pmd_1 rfl (by decide +kernel)
  · exact chk_in (i := 424) (by decide +kernel)
  · exact chk_in (i := 422) (by decide +kernel)
  · exact fun _ _ => chk_in (i := 423) (by decide +kernel)
  · exact chk_in (i := 17) (by decide +kernel)
theorem mw_51 : mwOK 51 := by
  refine mwOK_mk (y := (⟨"EvenWords", "recent", "(I)I"⟩ : MethodName)) (n := 1) rfl ?_ ?_ ?_ ?_ (by decide +kernel) (by decide +kernel) pmd_1 rfl (by decide +kernel)
  · exact chk_in (i := 294) (by decide +kernel)
  · exact chk_in (i := 292) (by decide +kernel)
  · exact fun _ _ => chk_in (i := 293) (by decide +kernel)
  · exact chk_in (i := 17) (by decide +kernel)
theorem mw_52 : mwOK 52 := by
  refine mwOK_mk (y := (⟨"EvenWords", "piece", "(IIII)I"⟩ : MethodName)) (n := 4) rfl ?_ ?_ ?_ ?_ (by decide +kernel) (by decide +kernel) pmd_12 rfl (by decide +kernel)
  · exact chk_in (i := 435) (by decide +kernel)
  · exact chk_in (i := 433) (by decide +kernel)
  · exact fun _ _ => chk_in (i := 434) (by decide +kernel)
  · exact chk_in (i := 17) (by decide +kernel)
theorem mw_53 : mwOK 53 := by
  refine mwOK_mk (y := (⟨"EvenWords", "read", "(III)I"⟩ : MethodName)) (n := 3) rfl ?_ ?_ ?_ ?_ (by decide +kernel) (by decide +kernel) pmd_13 rfl (by decide +kernel)
  · exact chk_in (i := 302) (by decide +kernel)
  · exact chk_in (i := 300) (by decide +kernel)
  · exact fun _ _ => chk_in (i := 301) (by decide +kernel)
  · exact chk_in (i := 17) (by decide +kernel)
theorem mw_54 : mwOK 54 := by
  refine mwOK_mk (y := (⟨"EvenWords", "cuts", "(I)I"⟩ : MethodName)) (n := 1) rfl ?_ ?_ ?_ ?_ (by decide +kernel) (by decide +kernel) pmd_1 rfl (by decide +kernel)
  · exact chk_in (i := 374) (by decide +kernel)
  · exact chk_in (i := 372) (by decide +kernel)
  · exact fun _ _ => chk_in (i := 373) (by decide +kernel)
  · exact chk_in (i := 17) (by decide +kernel)
theorem mw_55 : mwOK 55 := by
  refine mwOK_mk (y := (⟨"EvenWords", "level", "(II)I"⟩ : MethodName)) (n := 2) rfl ?_ ?_ ?_ ?_ (by decide +kernel) (by decide +kernel) pmd_0 rfl (by decide +kernel)
  · exact chk_in (i := 490) (by decide +kernel)
  · exact chk_in (i := 488) (by decide +kernel)
  · exact fun _ _ => chk_in (i := 489) (by decide +kernel)
  · exact chk_in (i := 17) (by decide +kernel)
theorem mw_56 : mwOK 56 := by
  refine mwOK_mk (y := (⟨"EvenWords", "evenest", "(II)I"⟩ : MethodName)) (n := 2) rfl ?_ ?_ ?_ ?_ (by decide +kernel) (by decide +kernel) pmd_0 rfl (by decide +kernel)
  · exact chk_in (i := 456) (by decide +kernel)
  · exact chk_in (i := 454) (by decide +kernel)
  · exact fun _ _ => chk_in (i := 455) (by decide +kernel)
  · exact chk_in (i := 17) (by decide +kernel)
theorem mw_57 : mwOK 57 := by
  refine mwOK_mk (y := (⟨"EvenWords", "weight", "(I)I"⟩ : MethodName)) (n := 1) rfl ?_ ?_ ?_ ?_ (by decide +kernel) (by decide +kernel) pmd_1 rfl (by decide +kernel)
  · exact chk_in (i := 495) (by decide +kernel)
  · exact chk_in (i := 493) (by decide +kernel)
  · exact fun _ _ => chk_in (i := 494) (by decide +kernel)
  · exact chk_in (i := 17) (by decide +kernel)
theorem mw_58 : mwOK 58 := by
  refine mwOK_mk (y := (⟨"EvenWords", "keep", "(I)I"⟩ : MethodName)) (n := 1) rfl ?_ ?_ ?_ ?_ (by decide +kernel) (by decide +kernel) pmd_1 rfl (by decide +kernel)
  · exact chk_in (i := 378) (by decide +kernel)
  · exact chk_in (i := 376) (by decide +kernel)
  · exact fun _ _ => chk_in (i := 377) (by decide +kernel)
  · exact chk_in (i := 17) (by decide +kernel)
theorem mw_59 : mwOK 59 := by
  refine mwOK_mk (y := (⟨"EvenWords", "back", "(I)I"⟩ : MethodName)) (n := 1) rfl ?_ ?_ ?_ ?_ (by decide +kernel) (by decide +kernel) pmd_1 rfl (by decide +kernel)
  · exact chk_in (i := 382) (by decide +kernel)
  · exact chk_in (i := 380) (by decide +kernel)
  · exact fun _ _ => chk_in (i := 381) (by decide +kernel)
  · exact chk_in (i := 17) (by decide +kernel)
theorem mw_60 : mwOK 60 := by
  refine mwOK_mk (y := (⟨"EvenWords", "count", "(I)I"⟩ : MethodName)) (n := 1) rfl ?_ ?_ ?_ ?_ (by decide +kernel) (by decide +kernel) pmd_1 rfl (by decide +kernel)
  · exact chk_in (i := 386) (by decide +kernel)
  · exact chk_in (i := 384) (by decide +kernel)
  · exact fun _ _ => chk_in (i := 385) (by decide +kernel)
  · exact chk_in (i := 17) (by decide +kernel)
theorem mw_61 : mwOK 61 := by
  refine mwOK_mk (y := (⟨"EvenWords", "sendOne", "(I)I"⟩ : MethodName)) (n := 1) rfl ?_ ?_ ?_ ?_ (by decide +kernel) (by decide +kernel) pmd_1 rfl (by decide +kernel)
  · exact chk_in (i := 217) (by decide +kernel)
  · exact chk_in (i := 216) (by decide +kernel)
  · exact fun _ _ => chk_in (i := 0) (by decide +kernel)
  · exact chk_in (i := 17) (by decide +kernel)
theorem mw_62 : mwOK 62 := by
  refine mwOK_mk (y := (⟨"EvenWords", "remember", "()V"⟩ : MethodName)) (n := 0) rfl ?_ ?_ ?_ ?_ (by decide +kernel) (by decide +kernel) pmd_3 rfl (by decide +kernel)
  · exact chk_in (i := 221) (by decide +kernel)
  · exact chk_in (i := 220) (by decide +kernel)
  · exact fun _ _ => chk_in (i := 1) (by decide +kernel)
  · exact chk_in (i := 17) (by decide +kernel)
theorem mw_63 : mwOK 63 := by
  refine mwOK_mk (y := (⟨"EvenWords", "forgetOldest", "()V"⟩ : MethodName)) (n := 0) rfl ?_ ?_ ?_ ?_ (by decide +kernel) (by decide +kernel) pmd_3 rfl (by decide +kernel)
  · exact chk_in (i := 225) (by decide +kernel)
  · exact chk_in (i := 224) (by decide +kernel)
  · exact fun _ _ => chk_in (i := 2) (by decide +kernel)
  · exact chk_in (i := 17) (by decide +kernel)
theorem mw_64 : mwOK 64 := by
  refine mwOK_mk (y := (⟨"EvenWords", "longestRun", "()I"⟩ : MethodName)) (n := 0) rfl ?_ ?_ ?_ ?_ (by decide +kernel) (by decide +kernel) pmd_8 rfl (by decide +kernel)
  · exact chk_in (i := 402) (by decide +kernel)
  · exact chk_in (i := 401) (by decide +kernel)
  · exact fun _ _ => chk_in (i := 6) (by decide +kernel)
  · exact chk_in (i := 17) (by decide +kernel)
theorem mw_65 : mwOK 65 := by
  refine mwOK_mk (y := (⟨"EvenWords", "faultPlace", "()I"⟩ : MethodName)) (n := 0) rfl ?_ ?_ ?_ ?_ (by decide +kernel) (by decide +kernel) pmd_8 rfl (by decide +kernel)
  · exact chk_in (i := 513) (by decide +kernel)
  · exact chk_in (i := 512) (by decide +kernel)
  · exact fun _ _ => chk_in (i := 9) (by decide +kernel)
  · exact chk_in (i := 17) (by decide +kernel)
theorem mw_66 : mwOK 66 := by
  refine mwOK_mk (y := (⟨"EvenWords", "isTokenStart", "(I)Z"⟩ : MethodName)) (n := 1) rfl ?_ ?_ ?_ ?_ (by decide +kernel) (by decide +kernel) pmd_11 rfl (by decide +kernel)
  · exact chk_in (i := 517) (by decide +kernel)
  · exact chk_in (i := 516) (by decide +kernel)
  · exact fun _ _ => chk_in (i := 10) (by decide +kernel)
  · exact chk_in (i := 17) (by decide +kernel)
theorem mw_67 : mwOK 67 := by
  refine mwOK_mk (y := (⟨"EvenWords", "afterToken", "(II)I"⟩ : MethodName)) (n := 2) rfl ?_ ?_ ?_ ?_ (by decide +kernel) (by decide +kernel) pmd_0 rfl (by decide +kernel)
  · exact chk_in (i := 529) (by decide +kernel)
  · exact chk_in (i := 528) (by decide +kernel)
  · exact fun _ _ => chk_in (i := 13) (by decide +kernel)
  · exact chk_in (i := 17) (by decide +kernel)
theorem mw_68 : mwOK 68 := by
  refine mwOK_mk (y := (⟨"EvenWords", "afterNumber", "(III)I"⟩ : MethodName)) (n := 3) rfl ?_ ?_ ?_ ?_ (by decide +kernel) (by decide +kernel) pmd_13 rfl (by decide +kernel)
  · exact chk_in (i := 537) (by decide +kernel)
  · exact chk_in (i := 536) (by decide +kernel)
  · exact fun _ _ => chk_in (i := 15) (by decide +kernel)
  · exact chk_in (i := 17) (by decide +kernel)
theorem mw_69 : mwOK 69 := by
  refine mwOK_mk (y := (⟨"EvenWords", "numberAt", "(I)I"⟩ : MethodName)) (n := 1) rfl ?_ ?_ ?_ ?_ (by decide +kernel) (by decide +kernel) pmd_1 rfl (by decide +kernel)
  · exact chk_in (i := 533) (by decide +kernel)
  · exact chk_in (i := 532) (by decide +kernel)
  · exact fun _ _ => chk_in (i := 14) (by decide +kernel)
  · exact chk_in (i := 17) (by decide +kernel)
theorem mw_70 : mwOK 70 := by
  refine mwOK_mk (y := (⟨"EvenWords", "figureAt", "(I)I"⟩ : MethodName)) (n := 1) rfl ?_ ?_ ?_ ?_ (by decide +kernel) (by decide +kernel) pmd_1 rfl (by decide +kernel)
  · exact chk_in (i := 525) (by decide +kernel)
  · exact chk_in (i := 524) (by decide +kernel)
  · exact fun _ _ => chk_in (i := 12) (by decide +kernel)
  · exact chk_in (i := 17) (by decide +kernel)
theorem mw_71 : mwOK 71 := by
  refine mwOK_mk (y := (⟨"EvenWords", "letterAt", "(I)I"⟩ : MethodName)) (n := 1) rfl ?_ ?_ ?_ ?_ (by decide +kernel) (by decide +kernel) pmd_1 rfl (by decide +kernel)
  · exact chk_in (i := 521) (by decide +kernel)
  · exact chk_in (i := 520) (by decide +kernel)
  · exact fun _ _ => chk_in (i := 11) (by decide +kernel)
  · exact chk_in (i := 17) (by decide +kernel)
theorem mw_72 : mwOK 72 := by
  refine mwOK_mk (y := (⟨"EvenWords", "canRead", "(II)Z"⟩ : MethodName)) (n := 2) rfl ?_ ?_ ?_ ?_ (by decide +kernel) (by decide +kernel) pmd_2 rfl (by decide +kernel)
  · exact chk_in (i := 305) (by decide +kernel)
  · exact chk_in (i := 304) (by decide +kernel)
  · exact fun h1 h2 => absurd h2 (by decide +kernel)
  · exact chk_in (i := 17) (by decide +kernel)
theorem mw_73 : mwOK 73 := by
  refine mwOK_mk (y := (⟨"EvenWords", "sumOf", "(I)I"⟩ : MethodName)) (n := 1) rfl ?_ ?_ ?_ ?_ (by decide +kernel) (by decide +kernel) pmd_1 rfl (by decide +kernel)
  · exact chk_in (i := 309) (by decide +kernel)
  · exact chk_in (i := 308) (by decide +kernel)
  · exact fun h1 h2 => absurd h2 (by decide +kernel)
  · exact chk_in (i := 17) (by decide +kernel)
theorem mw_74 : mwOK 74 := by
  refine mwOK_mk (y := (⟨"EvenWords", "signOf", "(I)I"⟩ : MethodName)) (n := 1) rfl ?_ ?_ ?_ ?_ (by decide +kernel) (by decide +kernel) pmd_1 rfl (by decide +kernel)
  · exact chk_in (i := 389) (by decide +kernel)
  · exact chk_in (i := 388) (by decide +kernel)
  · exact fun h1 h2 => absurd h2 (by decide +kernel)
  · exact chk_in (i := 17) (by decide +kernel)
theorem mw_75 : mwOK 75 := by
  refine mwOK_mk (y := (⟨"java/lang/Integer", "bitCount", "(I)I"⟩ : MethodName)) (n := 1) rfl ?_ ?_ ?_ ?_ (by decide +kernel) (by decide +kernel) pmd_1 rfl (by decide +kernel)
  · exact chk_in (i := 243) (by decide +kernel)
  · exact chk_in (i := 242) (by decide +kernel)
  · exact fun h1 h2 => absurd h2 (by decide +kernel)
  · exact chk_in (i := 24) (by decide +kernel)
theorem mw_76 : mwOK 76 := by
  refine mwOK_mk (y := (⟨"EvenWordsLaw", "cell", "([II)I"⟩ : MethodName)) (n := 2) rfl ?_ ?_ ?_ ?_ (by decide +kernel) (by decide +kernel) pmd_14 rfl (by decide +kernel)
  · exact chk_in (i := 412) (by decide +kernel)
  · exact chk_in (i := 411) (by decide +kernel)
  · exact fun h1 h2 => absurd h2 (by decide +kernel)
  · exact chk_in (i := 16) (by decide +kernel)
theorem mw_77 : mwOK 77 := by
  refine mwOK_mk (y := (⟨"EvenWordsLaw", "low", "(II)I"⟩ : MethodName)) (n := 2) rfl ?_ ?_ ?_ ?_ (by decide +kernel) (by decide +kernel) pmd_0 rfl (by decide +kernel)
  · exact chk_in (i := 415) (by decide +kernel)
  · exact chk_in (i := 414) (by decide +kernel)
  · exact fun h1 h2 => absurd h2 (by decide +kernel)
  · exact chk_in (i := 16) (by decide +kernel)
theorem mw_78 : mwOK 78 := by
  refine mwOK_mk (y := (⟨"EvenWordsLaw", "tale", "(LEvenWords;)J"⟩ : MethodName)) (n := 1) rfl ?_ ?_ ?_ ?_ (by decide +kernel) (by decide +kernel) pmd_15 rfl (by decide +kernel)
  · exact chk_in (i := 419) (by decide +kernel)
  · exact chk_in (i := 418) (by decide +kernel)
  · exact fun h1 h2 => absurd h2 (by decide +kernel)
  · exact chk_in (i := 16) (by decide +kernel)
theorem mw_79 : mwOK 79 := by
  refine mwOK_mk (y := (⟨"EvenWordsLaw", "plain", "(LEvenWords;)Z"⟩ : MethodName)) (n := 1) rfl ?_ ?_ ?_ ?_ (by decide +kernel) (by decide +kernel) pmd_16 rfl (by decide +kernel)
  · exact chk_in (i := 431) (by decide +kernel)
  · exact chk_in (i := 430) (by decide +kernel)
  · exact fun h1 h2 => absurd h2 (by decide +kernel)
  · exact chk_in (i := 16) (by decide +kernel)
theorem mw_80 : mwOK 80 := by
  refine mwOK_mk (y := (⟨"EvenWordsLaw", "turned", "(LEvenWords;IJ)Z"⟩ : MethodName)) (n := 3) rfl ?_ ?_ ?_ ?_ (by decide +kernel) (by decide +kernel) pmd_17 rfl (by decide +kernel)
  · exact chk_in (i := 482) (by decide +kernel)
  · exact chk_in (i := 481) (by decide +kernel)
  · exact fun h1 h2 => absurd h2 (by decide +kernel)
  · exact chk_in (i := 16) (by decide +kernel)
theorem mw_81 : mwOK 81 := by
  refine mwOK_mk (y := (⟨"EvenWordsLaw", "levels", "(LEvenWords;)Z"⟩ : MethodName)) (n := 1) rfl ?_ ?_ ?_ ?_ (by decide +kernel) (by decide +kernel) pmd_16 rfl (by decide +kernel)
  · exact chk_in (i := 486) (by decide +kernel)
  · exact chk_in (i := 485) (by decide +kernel)
  · exact fun h1 h2 => absurd h2 (by decide +kernel)
  · exact chk_in (i := 16) (by decide +kernel)
theorem mw_82 : mwOK 82 := by
  refine mwOK_mk (y := (⟨"EvenWordsLaw", "act", "(LEvenWords;I)I"⟩ : MethodName)) (n := 2) rfl ?_ ?_ ?_ ?_ (by decide +kernel) (by decide +kernel) pmd_18 rfl (by decide +kernel)
  · exact chk_in (i := 501) (by decide +kernel)
  · exact chk_in (i := 500) (by decide +kernel)
  · exact fun h1 h2 => absurd h2 (by decide +kernel)
  · exact chk_in (i := 16) (by decide +kernel)
theorem mw_all {k : Nat} (h : k < 83) : mwOK k := by
  match k, h with
  | 0, _ => exact mw_0
  | 1, _ => exact mw_1
  | 2, _ => exact mw_2
  | 3, _ => exact mw_3
  | 4, _ => exact mw_4
  | 5, _ => exact mw_5
  | 6, _ => exact mw_6
  | 7, _ => exact mw_7
  | 8, _ => exact mw_8
  | 9, _ => exact mw_9
  | 10, _ => exact mw_10
  | 11, _ => exact mw_11
  | 12, _ => exact mw_12
  | 13, _ => exact mw_13
  | 14, _ => exact mw_14
  | 15, _ => exact mw_15
  | 16, _ => exact mw_16
  | 17, _ => exact mw_17
  | 18, _ => exact mw_18
  | 19, _ => exact mw_19
  | 20, _ => exact mw_20
  | 21, _ => exact mw_21
  | 22, _ => exact mw_22
  | 23, _ => exact mw_23
  | 24, _ => exact mw_24
  | 25, _ => exact mw_25
  | 26, _ => exact mw_26
  | 27, _ => exact mw_27
  | 28, _ => exact mw_28
  | 29, _ => exact mw_29
  | 30, _ => exact mw_30
  | 31, _ => exact mw_31
  | 32, _ => exact mw_32
  | 33, _ => exact mw_33
  | 34, _ => exact mw_34
  | 35, _ => exact mw_35
  | 36, _ => exact mw_36
  | 37, _ => exact mw_37
  | 38, _ => exact mw_38
  | 39, _ => exact mw_39
  | 40, _ => exact mw_40
  | 41, _ => exact mw_41
  | 42, _ => exact mw_42
  | 43, _ => exact mw_43
  | 44, _ => exact mw_44
  | 45, _ => exact mw_45
  | 46, _ => exact mw_46
  | 47, _ => exact mw_47
  | 48, _ => exact mw_48
  | 49, _ => exact mw_49
  | 50, _ => exact mw_50
  | 51, _ => exact mw_51
  | 52, _ => exact mw_52
  | 53, _ => exact mw_53
  | 54, _ => exact mw_54
  | 55, _ => exact mw_55
  | 56, _ => exact mw_56
  | 57, _ => exact mw_57
  | 58, _ => exact mw_58
  | 59, _ => exact mw_59
  | 60, _ => exact mw_60
  | 61, _ => exact mw_61
  | 62, _ => exact mw_62
  | 63, _ => exact mw_63
  | 64, _ => exact mw_64
  | 65, _ => exact mw_65
  | 66, _ => exact mw_66
  | 67, _ => exact mw_67
  | 68, _ => exact mw_68
  | 69, _ => exact mw_69
  | 70, _ => exact mw_70
  | 71, _ => exact mw_71
  | 72, _ => exact mw_72
  | 73, _ => exact mw_73
  | 74, _ => exact mw_74
  | 75, _ => exact mw_75
  | 76, _ => exact mw_76
  | 77, _ => exact mw_77
  | 78, _ => exact mw_78
  | 79, _ => exact mw_79
  | 80, _ => exact mw_80
  | 81, _ => exact mw_81
  | 82, _ => exact mw_82
  | n + 83, h => omega
def vC (ci : Nat) : vw_C := vwCl.getD ci ("", (fun _ => ("", "", "", false)), 0)
def tyC (ci : Nat) : Nat → FieldType := mvTy.getD ci (fun _ => .int)
def chkF (q : Nat × Nat × Nat × Nat × Nat) : Bool :=
  chk (.fieldLink (ownN q.1) q.2.1 (vC q.2.2.1).1 ((vC q.2.2.1).2.1 q.2.2.2.1).2.1 ((vC q.2.2.1).2.1 q.2.2.2.1).2.2.1) (q.2.2.2.2 + npv) && decide (q.2.2.1 < 5 ∧ q.2.2.2.1 < nfOf q.2.2.1)
theorem chkF_all : mvF.all chkF = true := by decide +kernel
def nestW (q : Nat × Nat × Nat × Bool × Nat) : Cond := .methodLinkNest (ownN q.1) q.2.1 (yOf q.2.2.1) "EvenWords"
def chkC (q : Nat × Nat × Nat × Bool × Nat) : Bool := decide (q.2.2.1 < 84) && (if q.2.2.2.1 then decide (lw_tbl[q.2.2.2.2 + npv]? = some (nestW q)) && isInit q.2.2.1 else chk (.methodLink (ownN q.1) q.2.1 (yOf q.2.2.1)) (q.2.2.2.2 + npv))
theorem chkC_1 : (mvC.take 80).all chkC = true := by decide +kernel
theorem chkC_2 : (mvC.drop 80).all chkC = true := by decide +kernel
theorem chkC_all {q : Nat × Nat × Nat × Bool × Nat} (h : q ∈ mvC) : chkC q = true := by
  rw [← List.take_append_drop 80 mvC] at h
  rcases List.mem_append.mp h with h | h
  · exact List.all_eq_true.mp chkC_1 q h
  · exact List.all_eq_true.mp chkC_2 q h
def chkOb (q : Nat × Nat × Nat) : Bool := chk (.methodLink (ownN q.1) q.2.1 objectInit) (q.2.2 + npv)
theorem chkOb_all : mvOb.all chkOb = true := by decide +kernel
theorem obj_in : (Cond.instanceMethod objectInit) ∈ gT ∧ (Cond.code objectInit ⟨#[0xb1]⟩ 1 none) ∈ gT := ⟨chk_in (i := 15 + npv) (by decide +kernel), chk_in (i := 16 + npv) (by decide +kernel)⟩
def chkN (q : Nat × Nat × Nat × Nat) : Bool := chk (.classLink (ownN q.1) q.2.1 (vC q.2.2.1).1) (q.2.2.2 + npv) && decide (q.2.2.1 < 5)
theorem chkN_all : mvN.all chkN = true := by decide +kernel
theorem mx_in : Lib.Math.max.name = yOf 83 ∧ (Cond.static Lib.Math.max.name) ∈ gT ∧ (Cond.initialized "java/lang/Math") ∈ gT ∧ (Cond.code Lib.Math.max.name Lib.Math.max.code 2 (some .int)) ∈ gT := ⟨rfl, chk_in (i := 335 + npv) (by decide +kernel), chk_in (i := 7 + npv) (by decide +kernel), chk_in (i := 336 + npv) (by decide +kernel)⟩
def chkK (q : Nat × Nat × Int32 × Nat) : Bool := chk (.constant (ownN q.1) q.2.1 q.2.2.1) (q.2.2.2 + npv)
theorem chkK_all : mvK.all chkK = true := by decide +kernel
def chkKl (q : Nat × Nat × Int64 × Nat) : Bool := chk (.constantLong (ownN q.1) q.2.1 q.2.2.1) (q.2.2.2 + npv)
theorem chkKl_all : mvKl.all chkKl = true := by decide +kernel
def sNm (j : Nat) : String := if j = 0 then "AS_A" else "MEANS"
def chkS (q : Nat × Nat × Nat × Nat) : Bool := chk (.fieldLink (ownN q.1) q.2.1 "EvenWords$Forms" (sNm q.2.2.1) "[I") (q.2.2.2 + npv) && decide (q.2.2.1 < 2)
theorem chkS_all : mvS.all chkS = true := by decide +kernel
def chkCl (ci : Nat) : Bool := (u_ws (vC ci).1 (vC ci).2.1 (vC ci).2.2).all (fun w => decide (w ∈ lw_tbl) && goodWord w) && (decide (Cond.instantiable (vC ci).1 (vC ci).2.2 ∈ lw_tbl) && (goodWord (Cond.instantiable (vC ci).1 (vC ci).2.2) && (decide (Cond.initialized (vC ci).1 ∈ lw_tbl) && (goodWord (Cond.initialized (vC ci).1) && (decide ((vC ci).2.2 = nfOf ci))))))
theorem chkCl_0 : chkCl 0 = true := by decide +kernel
theorem chkCl_1 : chkCl 1 = true := by decide +kernel
theorem chkCl_2 : chkCl 2 = true := by decide +kernel
theorem chkCl_3 : chkCl 3 = true := by decide +kernel
theorem chkCl_4 : chkCl 4 = true := by decide +kernel
theorem lt6 {P : Nat → Prop} (h0 : P 0) (h1 : P 1) (h2 : P 2) (h3 : P 3) (h4 : P 4) {ci : Nat} (h : ci < 5) : P ci := by
  match ci, h with
  | 0, _ => exact h0
  | 1, _ => exact h1
  | 2, _ => exact h2
  | 3, _ => exact h3
  | 4, _ => exact h4
  | n + 5, h => omega
theorem cl_ws {ci : Nat} (h : ci < 5) : ∀ w ∈ u_ws (vC ci).1 (vC ci).2.1 (vC ci).2.2, w ∈ gT := by
  have e : chkCl ci = true := lt6 (P := fun ci => chkCl ci = true) chkCl_0 chkCl_1 chkCl_2 chkCl_3 chkCl_4 h
  simp only [chkCl, Bool.and_eq_true, decide_eq_true_eq, List.all_eq_true] at e
  exact fun w hw => gT_in (e.1 w hw).1 (e.1 w hw).2
theorem cl_inst {ci : Nat} (h : ci < 5) : Cond.instantiable (vC ci).1 (vC ci).2.2 ∈ gT ∧ Cond.initialized (vC ci).1 ∈ gT ∧ (vC ci).2.2 = nfOf ci ∧ vwCl[ci]? = some ((vC ci).1, (vC ci).2.1, (vC ci).2.2) := by
  have e : chkCl ci = true := lt6 (P := fun ci => chkCl ci = true) chkCl_0 chkCl_1 chkCl_2 chkCl_3 chkCl_4 h
  simp only [chkCl, Bool.and_eq_true, decide_eq_true_eq, List.all_eq_true] at e
  exact ⟨gT_in e.2.1 e.2.2.1, gT_in e.2.2.2.1 e.2.2.2.2.1, e.2.2.2.2.2, lt6 (P := fun ci => vwCl[ci]? = some ((vC ci).1, (vC ci).2.1, (vC ci).2.2)) rfl rfl rfl rfl rfl h⟩
theorem cl_ty {ci : Nat} (h : ci < 5) : ∀ k, k < (vC ci).2.2 → parseFieldDescriptor ((vC ci).2.1 k).2.2.1 = some (tyC ci k) := lt6 (P := fun ci => ∀ k, k < (vC ci).2.2 → parseFieldDescriptor ((vC ci).2.1 k).2.2.1 = some (tyC ci k)) tyX1_ok tyX2_ok tyX3_ok tyX4_ok tyX5_ok h
theorem cl_nm {ci : Nat} (h : ci < 5) : ∀ a, a < (vC ci).2.2 → ∀ b, b < (vC ci).2.2 → a ≠ b → ((vC ci).2.1 a).2.1 ≠ ((vC ci).2.1 b).2.1 := lt6 (P := fun ci => ∀ a, a < (vC ci).2.2 → ∀ b, b < (vC ci).2.2 → a ≠ b → ((vC ci).2.1 a).2.1 ≠ ((vC ci).2.1 b).2.1) nmX1 nmX2 nmX3 nmX4 nmX5 h
def chkT (ci k : Nat) : Bool := decide (((vC ci).2.1 k).1 = (vC ci).1 ∧ ((vC ci).2.1 k).2.2.2 = (ftOf ci k).2 ∧ defaultValue (tyC ci k) = vp_V (dfOf ci) k ∧ (vC ci).1 = ownN ci) && (match (ftOf ci k).1, tyC ci k with
  | 0, .int => true
  | 1, .boolean => true
  | 2, .object _ => true
  | 2, .array _ => true
  | _, _ => false)
theorem chkT_0 : ∀ k, k < nfOf 0 → chkT 0 k = true := by decide +kernel
theorem chkT_1 : ∀ k, k < nfOf 1 → chkT 1 k = true := by decide +kernel
theorem chkT_2 : ∀ k, k < nfOf 2 → chkT 2 k = true := by decide +kernel
theorem chkT_3 : ∀ k, k < nfOf 3 → chkT 3 k = true := by decide +kernel
theorem chkT_4 : ∀ k, k < nfOf 4 → chkT 4 k = true := by decide +kernel
theorem chkT_all {ci : Nat} (h : ci < 5) : ∀ k, k < nfOf ci → chkT ci k = true := lt6 (P := fun ci => ∀ k, k < nfOf ci → chkT ci k = true) chkT_0 chkT_1 chkT_2 chkT_3 chkT_4 h
theorem ft_ok {ci k : Nat} (h : ci < 5) (hk : k < nfOf ci) : ((vC ci).2.1 k).1 = (vC ci).1 ∧ ((vC ci).2.1 k).2.2.2 = (ftOf ci k).2 ∧ defaultValue (tyC ci k) = vp_V (dfOf ci) k ∧ (vC ci).1 = ownN ci := by
  have e := chkT_all h k hk
  simp only [chkT, Bool.and_eq_true, decide_eq_true_eq] at e
  exact e.1
/-- what may be put fits and stays as it is -/
theorem put_fits {M ci k : Nat} {v : Value} (h : ci < 5) (hk : k < nfOf ci) (hm : mayPut M ci k v = true) : narrow (tyC ci k) v = v ∧ fits (tyC ci k) v = true := by
  have e := chkT_all h k hk
  simp only [chkT, Bool.and_eq_true] at e
  have e2 := e.2
  simp only [mayPut, Bool.and_eq_true] at hm
  have m1 := hm.1
  generalize (ftOf ci k).1 = z at e2 m1
  generalize tyC ci k = ty at e2 ⊢
  split at m1
  · cases ty <;> first | (exact ⟨rfl, rfl⟩) | (simp at e2)
  · rename_i x
    simp only [Bool.or_eq_true, beq_iff_eq] at m1
    cases ty <;> first | (rcases m1 with rfl | rfl <;> exact ⟨by decide +kernel, by decide +kernel⟩) | (simp at e2)
  · cases ty <;> first | (exact ⟨rfl, rfl⟩) | (simp at e2)
  · cases m1
theorem fl_in {o i ci k : Nat} (h : mvFl o i = some (ci, k)) : ci < 5 ∧ k < nfOf ci ∧ (Cond.fieldLink (ownN o) i (vC ci).1 ((vC ci).2.1 k).2.1 ((vC ci).2.1 k).2.2.1) ∈ gT := by
  simp only [mvFl, Option.map_eq_some_iff] at h
  obtain ⟨q, hq, he⟩ := h
  have h1 := List.find?_some hq
  have h2 := List.all_eq_true.mp chkF_all q (List.mem_of_find?_eq_some hq)
  simp only [Bool.and_eq_true, beq_iff_eq] at h1
  cases he
  simp only [chkF, Bool.and_eq_true, decide_eq_true_eq] at h2
  rw [← h1.1, ← h1.2]
  exact ⟨h2.2.1, h2.2.2, chk_in h2.1⟩
theorem nl_in {o i ci : Nat} (h : mvNl o i = some ci) : ci < 5 ∧ (Cond.classLink (ownN o) i (vC ci).1) ∈ gT := by
  simp only [mvNl, Option.map_eq_some_iff] at h
  obtain ⟨q, hq, he⟩ := h
  have h1 := List.find?_some hq
  have h2 := List.all_eq_true.mp chkN_all q (List.mem_of_find?_eq_some hq)
  simp only [Bool.and_eq_true, beq_iff_eq] at h1
  cases he
  simp only [chkN, Bool.and_eq_true, decide_eq_true_eq] at h2
  rw [← h1.1, ← h1.2]
  exact ⟨h2.2, chk_in h2.1⟩
theorem ki_in {o i : Nat} {v : Int32} (h : mvKi o i = some v) : (Cond.constant (ownN o) i v) ∈ gT := by
  simp only [mvKi, Option.map_eq_some_iff] at h
  obtain ⟨q, hq, he⟩ := h
  have h1 := List.find?_some hq
  have h2 := List.all_eq_true.mp chkK_all q (List.mem_of_find?_eq_some hq)
  simp only [Bool.and_eq_true, beq_iff_eq] at h1
  cases he
  rw [← h1.1, ← h1.2]
  exact chk_in h2
theorem kli_in {o i : Nat} {v : Int64} (h : mvKli o i = some v) : (Cond.constantLong (ownN o) i v) ∈ gT := by
  simp only [mvKli, Option.map_eq_some_iff] at h
  obtain ⟨q, hq, he⟩ := h
  have h1 := List.find?_some hq
  have h2 := List.all_eq_true.mp chkKl_all q (List.mem_of_find?_eq_some hq)
  simp only [Bool.and_eq_true, beq_iff_eq] at h1
  cases he
  rw [← h1.1, ← h1.2]
  exact chk_in h2
theorem sl_in {o i j : Nat} (h : mvSl o i = some j) : j < 2 ∧ (Cond.fieldLink (ownN o) i "EvenWords$Forms" (sNm j) "[I") ∈ gT := by
  simp only [mvSl, Option.map_eq_some_iff] at h
  obtain ⟨q, hq, he⟩ := h
  have h1 := List.find?_some hq
  have h2 := List.all_eq_true.mp chkS_all q (List.mem_of_find?_eq_some hq)
  simp only [Bool.and_eq_true, beq_iff_eq] at h1
  cases he
  simp only [chkS, Bool.and_eq_true, decide_eq_true_eq] at h2
  rw [← h1.1, ← h1.2]
  exact ⟨h2.2, chk_in h2.1⟩
theorem ob_in {o i : Nat} (h : mvObl o i = true) : (Cond.methodLink (ownN o) i objectInit) ∈ gT := by
  simp only [mvObl, List.any_eq_true, Bool.and_eq_true, beq_iff_eq] at h
  obtain ⟨q, hq, h1, h2⟩ := h
  have h3 := List.all_eq_true.mp chkOb_all q hq
  rw [← h1, ← h2]
  exact chk_in h3
/-- a call's link: plain, or of a nest mate (then it is a constructor) -/
theorem cl_in {o i k : Nat} (h : mvCl o i = some k) : ((Cond.methodLink (ownN o) i (yOf k)) ∈ gT ∨ (isInit k = true ∧ ∃ q ∈ mvC, q.2.2.2.1 = true ∧ nestW q = .methodLinkNest (ownN o) i (yOf k) "EvenWords")) := by
  simp only [mvCl, Option.map_eq_some_iff] at h
  obtain ⟨q, hq, he⟩ := h
  have h1 := List.find?_some hq
  have hm := List.mem_of_find?_eq_some hq
  have h2 := chkC_all hm
  simp only [Bool.and_eq_true, beq_iff_eq] at h1
  cases he
  simp only [chkC, Bool.and_eq_true, decide_eq_true_eq] at h2
  by_cases hb : q.2.2.2.1 = true
  · rw [if_pos hb] at h2
    simp only [Bool.and_eq_true, decide_eq_true_eq] at h2
    exact Or.inr ⟨h2.2.2, q, hm, hb, by rw [nestW, h1.1, h1.2]⟩
  · rw [if_neg hb] at h2
    rw [← h1.1, ← h1.2]
    exact Or.inl (chk_in h2.2)
