/-! THE LAW: its end, and its loop -/
theorem pu_len {U : List aW} (X : aW) (h : U.length ≤ 6) : (pu U X).length = if U.length < 6 then U.length + 1 else 6 := by
  unfold pu
  by_cases c : U.length = 6
  · rw [if_pos c, if_neg (by omega)]
    simp
    omega
  · rw [if_neg c, if_pos (by omega)]
    simp
theorem pu_last (U : List aW) (X z : aW) : (pu U X).getD ((pu U X).length - 1) z = X := by
  unfold pu
  generalize (if U.length = 6 then U.tail else U) = l
  have e : (l ++ [X]).length - 1 = l.length := by simp
  rw [e, gapp_eq]
theorem undo_pu {S S2 : aS} (hU : S2.U = pu S.U S.X) (h : S.U.length ≤ 6) : (aUndo S2).1 = (if S.U.length < 6 then (S.U.length : Int) else 5) ∧ (aUndo S2).2.X = S.X ∧ (aUndo S2).2.I = S2.I ∧ (aUndo S2).2.T = S2.T := by
  have hl := pu_len S.X h
  have hp : 0 < (pu S.U S.X).length := by rw [hl]; split <;> omega
  unfold aUndo
  rw [hU, if_neg (by omega)]
  refine ⟨?_, pu_last _ _ _, rfl, rfl⟩
  show ((pu S.U S.X).length : Int) - 1 = _
  rw [hl]
  split <;> omega
theorem rcF_ne : ∀ (l : List Int) (r : Int × Int), (r.1 = -9 ∨ r.1 ≠ r.2) → (rcF r l).1 = -9 ∨ (rcF r l).1 ≠ (rcF r l).2 := by
  intro l
  induction l with
  | nil => intro r h; exact h
  | cons k l ih =>
    intro r h
    refine ih _ ?_
    split
    · right
      show r.2 ≠ k - 31
      omega
    · exact h
theorem rec_ok {X : aW} (hX : wf X) : (aRecent X 0 = aRecent X 1 → aRecent X 0 = -9) ∧ (-9 ≤ aRecent X 0 ∧ aRecent X 0 ≤ 2) ∧ -9 ≤ aRecent X 1 ∧ aRecent X 1 ≤ 2 := by
  have h := rcF_ne X.1 (-9, -9) (Or.inl rfl)
  have hb := rc_b hX
  have h : (rc X.1).1 = -9 ∨ (rc X.1).1 ≠ (rc X.1).2 := h
  unfold aRecent rcG
  rw [if_neg (show ¬ (0 : Int) < 0 by omega), if_neg (show ¬ (1 : Int) < 0 by omega)]
  generalize (rc X.1).1 = o at *
  generalize (rc X.1).2 = l at *
  by_cases c1 : l = -9
  · rw [if_pos c1, if_pos (by omega), if_pos (by omega)]
    omega
  · rw [if_neg c1]
    by_cases c2 : o = -9
    · rw [if_pos c2, if_neg (by omega), if_pos (by omega), if_pos (by omega)]
      omega
    · rw [if_neg c2, if_neg (by omega), if_neg (by omega), if_neg (by omega), if_pos (by omega)]
      omega
theorem pcI_6n : ∀ k : Int, pcI k ≤ 6 := by
  intro k
  have h : ∀ j : Nat, pcL.getD j 0 ≤ 6 := by
    intro j
    by_cases c : j < 64
    · have : ∀ j : Nat, j < 64 → pcL.getD j 0 ≤ 6 := by decide +kernel
      exact this j c
    · rw [List.getD_eq_getElem?_getD, List.getElem?_eq_none (by show 64 ≤ j; omega)]; decide
  exact h _
theorem sumI_le {f : Int → Int} {z : Int} (h0 : ∀ i, f i ≤ z) : ∀ (m : Nat) (k : Int), sumI f k m ≤ z * m := by
  intro m
  induction m with
  | zero => intro k; show (0 : Int) ≤ z * ((0 : Nat) : Int); simp
  | succ m ih =>
    intro k
    have h1 := h0 k
    have h2 := ih (k + 1)
    show f k + sumI f (k + 1) m ≤ z * ((m + 1 : Nat) : Int)
    rw [show ((m + 1 : Nat) : Int) = (m : Int) + 1 from rfl, Int.mul_add, Int.mul_one]
    omega
theorem count3_b {S : aS} (hX : wf S.X) : 0 ≤ aCount S 3 ∧ aCount S 3 ≤ 192 := by
  have h32 := hX.1
  have e : aCount S 3 = sumI (fun i => dfI (S.X.2.getD i.toNat 0) ((snt S.X.1).getD i.toNat 0)) 0 S.X.1.length := rfl
  rw [e]
  have h1 := (sumI_0 (fun i => dfI (S.X.2.getD i.toNat 0) ((snt S.X.1).getD i.toNat 0)) (fun i => pcI_0n _) S.X.1.length 0).1
  have h2 := sumI_le (f := fun i => dfI (S.X.2.getD i.toNat 0) ((snt S.X.1).getD i.toNat 0)) (z := 6) (fun i => pcI_6n _) S.X.1.length 0
  omega
section
variable {t : mL} {V : Nat → Nat → Value} {A : Nat → Nat → Int32} {P : Nat → Nat → Option Nat} {μ : mM} {Q : Option Value → mM → Prop} {S : aS} {xs : Nat → Int32}
/-- behind the loop: images, undo, what is refused -/
theorem lw_tail {k : Int32} {a4 a5 a7 a8 a9 : Value} (h4 : a4.category = 1) (hK : exK t) (hJ : lwJ xs t V A P S) (hI : S.I 0 = some ([], [])) (hQ : ∀ (V' : Nat → Nat → Value) (A' : Nat → Nat → Int32) (P' : Nat → Nat → Option Nat), Q (some (.int (iI 1))) (t, V', A', P')) : Ev 40 84 366 [.ref 2, .ref 3, .int (iI 0), .int k, a4, a5, .null, a7, a8, a9] [] (t, V, A, P) Q := by
  have k0 := hK.1
  have hX := hJ.wo.1
  have h32 := hX.1
  simp (disch := first | assumption | omega | exact isB_z | exact isB_o | exact iI_in' (by assumption) (by omega) (by omega) | exact cat_int _ | exact cat_ref _ | exact cat_null | decide) only [↓x_84_366, ↓x_84_367]
  refine k_tale (d := 19) hK hJ (fun V A P hJ => ?_)
  simp (disch := first | assumption | omega | exact isB_z | exact isB_o | exact iI_in' (by assumption) (by omega) (by omega) | exact cat_int _ | exact cat_ref _ | exact cat_null | decide) only [↓x_84_370, ↓x_84_371, ↓x_84_372, ↓x_84_373, up1_same, up1_ne, up1_up1, us_0, us_1, us_2, us_3, us_4, us_5, us_6, us_7, us_8, us_9, us_10, us_11, rw_zero, rw_succ, Option.toList_some, Option.toList_none, List.cons_append, List.nil_append, cat_int, cat_ref, cat_null, iI_add, iI_sub, iI_mul, iI_neg, List.length_cons, List.length_nil, ↓reduceIte, va_rf_some]
  refine kJ_keep (d := 20) hK hJ (by omega) (fun V A P hJ => ?_)
  have e1 : aKeep S 1 = ((S.X.1.length : Int), aS.mk S.X S.U (fun j => if j = 1 then some S.X else S.I j) S.T) := by unfold aKeep; rw [if_pos (by omega)]; rfl
  rw [e1] at hJ ⊢
  obtain ⟨S1, hS1⟩ : ∃ S1 : aS, S1 = aS.mk S.X S.U (fun j => if j = 1 then some S.X else S.I j) S.T := ⟨_, rfl⟩
  rw [← hS1] at hJ
  have c0 : aCount S1 0 = S.X.1.length := by rw [hS1]; rfl
  simp (disch := first | assumption | omega | exact isB_z | exact isB_o | exact iI_in' (by assumption) (by omega) (by omega) | exact cat_int _ | exact cat_ref _ | exact cat_null | decide) only [↓x_84_376, ↓x_84_378, ↓x_84_379, ↓x_84_382, ↓x_84_384, ↓x_84_385, ↓x_84_386, up1_same, up1_ne, up1_up1, us_0, us_1, us_2, us_3, us_4, us_5, us_6, us_7, us_8, us_9, us_10, us_11, rw_zero, rw_succ, Option.toList_some, Option.toList_none, List.cons_append, List.nil_append, cat_int, cat_ref, cat_null, iI_add, iI_sub, iI_mul, iI_neg, List.length_cons, List.length_nil, ↓reduceIte, va_rf_some]
  refine kJ_count (d := 20) hK hJ (by omega) (fun V A P hJ => ?_)
  simp (disch := first | assumption | omega | exact isB_z | exact isB_o | exact iI_in' (by assumption) (by omega) (by omega) | exact cat_int _ | exact cat_ref _ | exact cat_null | decide) only [↓x_84_389, ↓x_84_392, ↓x_84_393, ↓x_84_394, up1_same, up1_ne, up1_up1, us_0, us_1, us_2, us_3, us_4, us_5, us_6, us_7, us_8, us_9, us_10, us_11, rw_zero, rw_succ, Option.toList_some, Option.toList_none, List.cons_append, List.nil_append, cat_int, cat_ref, cat_null, iI_add, iI_sub, iI_mul, iI_neg, List.length_cons, List.length_nil, ↓reduceIte, va_rf_some, c0]
  refine kJ_back (d := 20) hK hJ (by omega) (fun V A P hJ => ?_)
  have e2 : aBack S1 0 = (0, aS.mk ([], []) [] S1.I S1.T) := by
    have hi : S1.I (0 : Int).toNat = some ([], []) := by rw [hS1]; exact hI
    unfold aBack
    rw [if_pos (by omega), hi]
    rfl
  rw [e2] at hJ ⊢
  obtain ⟨S2, hS2⟩ : ∃ S2 : aS, S2 = aS.mk ([], []) [] S1.I S1.T := ⟨_, rfl⟩
  rw [← hS2] at hJ
  have c2 : aCount S2 0 = 0 := by rw [hS2]; rfl
  simp (disch := first | assumption | omega | exact isB_z | exact isB_o | exact iI_in' (by assumption) (by omega) (by omega) | exact cat_int _ | exact cat_ref _ | exact cat_null | decide) only [↓x_84_397, ↓x_84_400, ↓x_84_401, ↓x_84_402, up1_same, up1_ne, up1_up1, us_0, us_1, us_2, us_3, us_4, us_5, us_6, us_7, us_8, us_9, us_10, us_11, rw_zero, rw_succ, Option.toList_some, Option.toList_none, List.cons_append, List.nil_append, cat_int, cat_ref, cat_null, iI_add, iI_sub, iI_mul, iI_neg, List.length_cons, List.length_nil, ↓reduceIte, va_rf_some]
  refine kJ_count (d := 20) hK hJ (by omega) (fun V A P hJ => ?_)
  simp (disch := first | assumption | omega | exact isB_z | exact isB_o | exact iI_in' (by assumption) (by omega) (by omega) | exact cat_int _ | exact cat_ref _ | exact cat_null | decide) only [↓x_84_405, ↓x_84_408, ↓x_84_409, up1_same, up1_ne, up1_up1, us_0, us_1, us_2, us_3, us_4, us_5, us_6, us_7, us_8, us_9, us_10, us_11, rw_zero, rw_succ, Option.toList_some, Option.toList_none, List.cons_append, List.nil_append, cat_int, cat_ref, cat_null, iI_add, iI_sub, iI_mul, iI_neg, List.length_cons, List.length_nil, ↓reduceIte, va_rf_some, c2]
  refine kJ_undo (d := 20) hK hJ (fun V A P hJ => ?_)
  have e3 : aUndo S2 = (-2, S2) := by unfold aUndo; rw [if_pos (by rw [hS2]; rfl)]
  rw [e3] at hJ ⊢
  simp (disch := first | assumption | omega | exact isB_z | exact isB_o | exact iI_in' (by assumption) (by omega) (by omega) | exact cat_int _ | exact cat_ref _ | exact cat_null | decide) only [↓x_84_412, ↓x_84_414, ↓x_84_417, ↓x_84_418, ↓x_84_419, up1_same, up1_ne, up1_up1, us_0, us_1, us_2, us_3, us_4, us_5, us_6, us_7, us_8, us_9, us_10, us_11, rw_zero, rw_succ, Option.toList_some, Option.toList_none, List.cons_append, List.nil_append, cat_int, cat_ref, cat_null, iI_add, iI_sub, iI_mul, iI_neg, List.length_cons, List.length_nil, ↓reduceIte, va_rf_some]
  refine kJ_back (d := 20) hK hJ (by omega) (fun V A P hJ => ?_)
  have e4 : aBack S2 1 = ((S.X.1.length : Int), aS.mk S.X [] S2.I S2.T) := by
    have hi : S2.I (1 : Int).toNat = some S.X := by rw [hS2, hS1]; rfl
    unfold aBack
    rw [if_pos (by omega), hi]
  rw [e4] at hJ ⊢
  obtain ⟨S3, hS3⟩ : ∃ S3 : aS, S3 = aS.mk S.X [] S2.I S2.T := ⟨_, rfl⟩
  rw [← hS3] at hJ
  have ht : taF S3 = taF S := taF_X (by rw [hS3])
  simp (disch := first | assumption | omega | exact isB_z | exact isB_o | exact iI_in' (by assumption) (by omega) (by omega) | exact cat_int _ | exact cat_ref _ | exact cat_null | decide) only [↓x_84_422, ↓x_84_424, ↓x_84_427, ↓x_84_428, up1_same, up1_ne, up1_up1, us_0, us_1, us_2, us_3, us_4, us_5, us_6, us_7, us_8, us_9, us_10, us_11, rw_zero, rw_succ, Option.toList_some, Option.toList_none, List.cons_append, List.nil_append, cat_int, cat_ref, cat_null, iI_add, iI_sub, iI_mul, iI_neg, List.length_cons, List.length_nil, ↓reduceIte, va_rf_some]
  refine k_tale (d := 19) hK hJ (fun V A P hJ => ?_)
  rw [ht]
  simp (disch := first | assumption | omega | exact isB_z | exact isB_o | exact iI_in' (by assumption) (by omega) (by omega) | exact cat_int _ | exact cat_ref _ | exact cat_null | decide) only [↓x_84_431, ↓x_84_432, ↓x_84_433, ↓x_84_436, ↓x_84_437, ↓x_84_440, ↓x_84_441, ↓x_84_443, ↓x_84_445, ↓x_84_448, ↓x_84_449, ↓x_84_450, up1_same, up1_ne, up1_up1, us_0, us_1, us_2, us_3, us_4, us_5, us_6, us_7, us_8, us_9, us_10, us_11, rw_zero, rw_succ, Option.toList_some, Option.toList_none, List.cons_append, List.nil_append, cat_int, cat_ref, cat_null, iI_add, iI_sub, iI_mul, iI_neg, List.length_cons, List.length_nil, ↓reduceIte, va_rf_some, lg_self, iI_eq, show ¬ (1 : Int) = 0 by omega]
  refine kJ_sends (d := 20) hK hJ (by omega) (fun V A P hJ => ?_)
  have e5 : aSends S3 (-1) = (-1, S3) := by unfold aSends; rw [if_pos (by omega)]
  rw [e5] at hJ ⊢
  simp (disch := first | assumption | omega | exact isB_z | exact isB_o | exact iI_in' (by assumption) (by omega) (by omega) | exact cat_int _ | exact cat_ref _ | exact cat_null | decide) only [↓x_84_453, ↓x_84_454, ↓x_84_457, ↓x_84_458, ↓x_84_459, up1_same, up1_ne, up1_up1, us_0, us_1, us_2, us_3, us_4, us_5, us_6, us_7, us_8, us_9, us_10, us_11, rw_zero, rw_succ, Option.toList_some, Option.toList_none, List.cons_append, List.nil_append, cat_int, cat_ref, cat_null, iI_add, iI_sub, iI_mul, iI_neg, List.length_cons, List.length_nil, ↓reduceIte, va_rf_some]
  refine kJ_marks (d := 20) hK hJ (by omega) (fun V A P hJ => ?_)
  have e6 : aMarks S3 (-1) = (-1, S3) := by unfold aMarks; rw [if_pos (by omega)]
  rw [e6] at hJ ⊢
  simp (disch := first | assumption | omega | exact isB_z | exact isB_o | exact iI_in' (by assumption) (by omega) (by omega) | exact cat_int _ | exact cat_ref _ | exact cat_null | decide) only [↓x_84_462, ↓x_84_463, ↓x_84_466, ↓x_84_467, ↓x_84_468, up1_same, up1_ne, up1_up1, us_0, us_1, us_2, us_3, us_4, us_5, us_6, us_7, us_8, us_9, us_10, us_11, rw_zero, rw_succ, Option.toList_some, Option.toList_none, List.cons_append, List.nil_append, cat_int, cat_ref, cat_null, iI_add, iI_sub, iI_mul, iI_neg, List.length_cons, List.length_nil, ↓reduceIte, va_rf_some]
  refine kJ_flips (d := 20) hK hJ (by omega) (fun V A P hJ => ?_)
  have e7 : aFlips S3 (-1) = (-1, S3) := by unfold aFlips; rw [if_neg (by omega)]
  rw [e7] at hJ ⊢
  simp (disch := first | assumption | omega | exact isB_z | exact isB_o | exact iI_in' (by assumption) (by omega) (by omega) | exact cat_int _ | exact cat_ref _ | exact cat_null | decide) only [↓x_84_471, ↓x_84_472, ↓x_84_475, ↓x_84_476, ↓x_84_477, up1_same, up1_ne, up1_up1, us_0, us_1, us_2, us_3, us_4, us_5, us_6, us_7, us_8, us_9, us_10, us_11, rw_zero, rw_succ, Option.toList_some, Option.toList_none, List.cons_append, List.nil_append, cat_int, cat_ref, cat_null, iI_add, iI_sub, iI_mul, iI_neg, List.length_cons, List.length_nil, ↓reduceIte, va_rf_some]
  refine kJ_keep (d := 20) hK hJ (by omega) (fun V A P hJ => ?_)
  have e8 : aKeep S3 (-1) = (-1, S3) := by unfold aKeep; rw [if_neg (by omega)]
  rw [e8] at hJ ⊢
  simp (disch := first | assumption | omega | exact isB_z | exact isB_o | exact iI_in' (by assumption) (by omega) (by omega) | exact cat_int _ | exact cat_ref _ | exact cat_null | decide) only [↓x_84_480, ↓x_84_481, ↓x_84_484, ↓x_84_485, ↓x_84_486, up1_same, up1_ne, up1_up1, us_0, us_1, us_2, us_3, us_4, us_5, us_6, us_7, us_8, us_9, us_10, us_11, rw_zero, rw_succ, Option.toList_some, Option.toList_none, List.cons_append, List.nil_append, cat_int, cat_ref, cat_null, iI_add, iI_sub, iI_mul, iI_neg, List.length_cons, List.length_nil, ↓reduceIte, va_rf_some]
  refine kJ_back (d := 20) hK hJ (by omega) (fun V A P hJ => ?_)
  have e9 : aBack S3 2 = (-1, S3) := by unfold aBack; rw [if_neg (by omega)]
  rw [e9] at hJ ⊢
  simp (disch := first | assumption | omega | exact isB_z | exact isB_o | exact iI_in' (by assumption) (by omega) (by omega) | exact cat_int _ | exact cat_ref _ | exact cat_null | decide) only [↓x_84_489, ↓x_84_490, ↓x_84_493, ↓x_84_494, up1_same, up1_ne, up1_up1, us_0, us_1, us_2, us_3, us_4, us_5, us_6, us_7, us_8, us_9, us_10, us_11, rw_zero, rw_succ, Option.toList_some, Option.toList_none, List.cons_append, List.nil_append, cat_int, cat_ref, cat_null, iI_add, iI_sub, iI_mul, iI_neg, List.length_cons, List.length_nil, ↓reduceIte, va_rf_some]
  refine k_tale (d := 19) hK hJ (fun V A P hJ => ?_)
  rw [ht]
  simp (disch := first | assumption | omega | exact isB_z | exact isB_o | exact iI_in' (by assumption) (by omega) (by omega) | exact cat_int _ | exact cat_ref _ | exact cat_null | decide) only [↓x_84_497, ↓x_84_498, ↓x_84_499, ↓x_84_502, ↓x_84_503, ↓x_84_506, ↓x_84_507, up1_same, up1_ne, up1_up1, us_0, us_1, us_2, us_3, us_4, us_5, us_6, us_7, us_8, us_9, us_10, us_11, rw_zero, rw_succ, Option.toList_some, Option.toList_none, List.cons_append, List.nil_append, cat_int, cat_ref, cat_null, iI_add, iI_sub, iI_mul, iI_neg, List.length_cons, List.length_nil, ↓reduceIte, va_rf_some, lg_self]
  exact hQ V A P
variable {k : Nat} {y : Int32} {a5 a7 a8 a9 : Value}
theorem lw_301 (hK : exK t) (hk : k < 26) (hJ : lwJ xs t V A P S) (hT : S.T = []) (hI : S.I 0 = some ([], [])) (hN : ∀ (S' : aS) (V : Nat → Nat → Value) (A : Nat → Nat → Int32) (P : Nat → Nat → Option Nat), S'.T = [] → S'.I 0 = some ([], []) → lwJ xs t V A P S' → Ev 40 84 360 [.ref 2, .ref 3, .int (iI 0), .int (iI (k : Int)), .int y, a5, .null, a7, a8, a9] [] (t, V, A, P) Q) : Ev 40 84 301 [.ref 2, .ref 3, .int (iI 0), .int (iI (k : Int)), .int y, a5, .null, a7, a8, a9] [] (t, V, A, P) Q := by
  have k0 := hK.1
  have hX := hJ.wo.1
  have h32 := hX.1
  by_cases c : (k : Int) - (k : Int) / 3 * 3 = 2
  · simp (disch := first | assumption | omega | exact isB_z | exact isB_o | exact iI_in' (by assumption) (by omega) (by omega) | exact cat_int _ | exact cat_ref _ | exact cat_null | decide) only [↓x_84_301, ↓x_84_302, ↓x_84_303, ↓x_84_304, ↓x_84_305, ↓x_84_308, ↓x_84_309, ↓x_84_310, up1_same, up1_ne, up1_up1, us_0, us_1, us_2, us_3, us_4, us_5, us_6, us_7, us_8, us_9, us_10, us_11, rw_zero, rw_succ, Option.toList_some, Option.toList_none, List.cons_append, List.nil_append, cat_int, cat_ref, cat_null, iI_add, iI_sub, iI_mul, iI_neg, List.length_cons, List.length_nil, ↓reduceIte, va_rf_some, iI_div, iI_n0, iI_eq, c]
    refine kJ_count (d := 20) hK hJ (by omega) (fun V A P hJ => ?_)
    have hc3 := count3_b hX
    by_cases c3 : aCount S 3 = 0
    · have hs := strt_of hX c3
      simp (disch := first | assumption | omega | exact isB_z | exact isB_o | exact iI_in' (by assumption) (by omega) (by omega) | exact cat_int _ | exact cat_ref _ | exact cat_null | decide) only [↓x_84_313, ↓x_84_316, ↓x_84_317, up1_same, up1_ne, up1_up1, us_0, us_1, us_2, us_3, us_4, us_5, us_6, us_7, us_8, us_9, us_10, us_11, rw_zero, rw_succ, Option.toList_some, Option.toList_none, List.cons_append, List.nil_append, cat_int, cat_ref, cat_null, iI_add, iI_sub, iI_mul, iI_neg, List.length_cons, List.length_nil, ↓reduceIte, va_rf_some, c3]
      refine k_plain (d := 19) hK hJ hs (fun V A P hJ => ?_)
      simp (disch := first | assumption | omega | exact isB_z | exact isB_o | exact iI_in' (by assumption) (by omega) (by omega) | exact cat_int _ | exact cat_ref _ | exact cat_null | decide) only [↓x_84_320, ↓x_84_323, ↓x_84_324, ↓x_84_325, up1_same, up1_ne, up1_up1, us_0, us_1, us_2, us_3, us_4, us_5, us_6, us_7, us_8, us_9, us_10, us_11, rw_zero, rw_succ, Option.toList_some, Option.toList_none, List.cons_append, List.nil_append, cat_int, cat_ref, cat_null, iI_add, iI_sub, iI_mul, iI_neg, List.length_cons, List.length_nil, ↓reduceIte, va_rf_some, iI_eq, show ¬ (1 : Int) = 0 by omega]
      refine kJ_count (d := 20) hK hJ (by omega) (fun V A P hJ => ?_)
      by_cases c4 : 0 < (S.X.1.length : Int)
      · simp (disch := first | assumption | omega | exact isB_z | exact isB_o | exact iI_in' (by assumption) (by omega) (by omega) | exact cat_int _ | exact cat_ref _ | exact cat_null | decide) only [↓x_84_328, ↓x_84_331, ↓x_84_332, ↓x_84_334, ↓x_84_336, ↓x_84_337, ↓x_84_339, ↓x_84_340, ↓x_84_341, up1_same, up1_ne, up1_up1, us_0, us_1, us_2, us_3, us_4, us_5, us_6, us_7, us_8, us_9, us_10, us_11, rw_zero, rw_succ, Option.toList_some, Option.toList_none, List.cons_append, List.nil_append, cat_int, cat_ref, cat_null, iI_add, iI_sub, iI_mul, iI_neg, List.length_cons, List.length_nil, ↓reduceIte, va_rf_some, aCount_0, iI_lt, c4]
        refine kJ_count (d := 20) hK hJ (by omega) (fun V A P hJ => ?_)
        simp (disch := first | assumption | omega | exact isB_z | exact isB_o | exact iI_in' (by assumption) (by omega) (by omega) | exact cat_int _ | exact cat_ref _ | exact cat_null | decide) only [↓x_84_344, ↓x_84_345, up1_same, up1_ne, up1_up1, us_0, us_1, us_2, us_3, us_4, us_5, us_6, us_7, us_8, us_9, us_10, us_11, rw_zero, rw_succ, Option.toList_some, Option.toList_none, List.cons_append, List.nil_append, cat_int, cat_ref, cat_null, iI_add, iI_sub, iI_mul, iI_neg, List.length_cons, List.length_nil, ↓reduceIte, va_rf_some, aCount_0]
        refine k_low (by omega) (by omega) (fun z z0 z1 => ?_)
        simp (disch := first | assumption | omega | exact isB_z | exact isB_o | exact iI_in' (by assumption) (by omega) (by omega) | exact cat_int _ | exact cat_ref _ | exact cat_null | decide) only [↓x_84_348, ↓x_84_349, up1_same, up1_ne, up1_up1, us_0, us_1, us_2, us_3, us_4, us_5, us_6, us_7, us_8, us_9, us_10, us_11, rw_zero, rw_succ, Option.toList_some, Option.toList_none, List.cons_append, List.nil_append, cat_int, cat_ref, cat_null, iI_add, iI_sub, iI_mul, iI_neg, List.length_cons, List.length_nil, ↓reduceIte, va_rf_some]
        refine k_tale (d := 19) hK hJ (fun V A P hJ => ?_)
        simp (disch := first | assumption | omega | exact isB_z | exact isB_o | exact iI_in' (by assumption) (by omega) (by omega) | exact cat_int _ | exact cat_ref _ | exact cat_null | decide) only [↓x_84_352, up1_same, up1_ne, up1_up1, us_0, us_1, us_2, us_3, us_4, us_5, us_6, us_7, us_8, us_9, us_10, us_11, rw_zero, rw_succ, Option.toList_some, Option.toList_none, List.cons_append, List.nil_append, cat_int, cat_ref, cat_null, iI_add, iI_sub, iI_mul, iI_neg, List.length_cons, List.length_nil, ↓reduceIte, va_rf_some]
        refine k_lturned (d := 18) hK hJ hs z0 (by omega) (fun S' h1 h2 h3 V A P hJ => ?_)
        simp (disch := first | assumption | omega | exact isB_z | exact isB_o | exact iI_in' (by assumption) (by omega) (by omega) | exact cat_int _ | exact cat_ref _ | exact cat_null | decide) only [↓x_84_355, up1_same, up1_ne, up1_up1, us_0, us_1, us_2, us_3, us_4, us_5, us_6, us_7, us_8, us_9, us_10, us_11, rw_zero, rw_succ, Option.toList_some, Option.toList_none, List.cons_append, List.nil_append, cat_int, cat_ref, cat_null, iI_add, iI_sub, iI_mul, iI_neg, List.length_cons, List.length_nil, ↓reduceIte, va_rf_some, iI_eq, show ¬ (1 : Int) = 0 by omega]
        exact hN S' V A P (by rw [h3]; exact hT) (by rw [h2]; exact hI) hJ
      · simp (disch := first | assumption | omega | exact isB_z | exact isB_o | exact iI_in' (by assumption) (by omega) (by omega) | exact cat_int _ | exact cat_ref _ | exact cat_null | decide) only [↓x_84_328, up1_same, up1_ne, up1_up1, us_0, us_1, us_2, us_3, us_4, us_5, us_6, us_7, us_8, us_9, us_10, us_11, rw_zero, rw_succ, Option.toList_some, Option.toList_none, List.cons_append, List.nil_append, cat_int, cat_ref, cat_null, iI_add, iI_sub, iI_mul, iI_neg, List.length_cons, List.length_nil, ↓reduceIte, va_rf_some, aCount_0, iI_lt, c4]
        exact hN S V A P hT hI hJ
    · simp (disch := first | assumption | omega | exact isB_z | exact isB_o | exact iI_in' (by assumption) (by omega) (by omega) | exact cat_int _ | exact cat_ref _ | exact cat_null | decide) only [↓x_84_313, up1_same, up1_ne, up1_up1, us_0, us_1, us_2, us_3, us_4, us_5, us_6, us_7, us_8, us_9, us_10, us_11, rw_zero, rw_succ, Option.toList_some, Option.toList_none, List.cons_append, List.nil_append, cat_int, cat_ref, cat_null, iI_add, iI_sub, iI_mul, iI_neg, List.length_cons, List.length_nil, ↓reduceIte, va_rf_some, iI_eq, c3]
      exact hN S V A P hT hI hJ
  · simp (disch := first | assumption | omega | exact isB_z | exact isB_o | exact iI_in' (by assumption) (by omega) (by omega) | exact cat_int _ | exact cat_ref _ | exact cat_null | decide) only [↓x_84_301, ↓x_84_302, ↓x_84_303, ↓x_84_304, ↓x_84_305, up1_same, up1_ne, up1_up1, us_0, us_1, us_2, us_3, us_4, us_5, us_6, us_7, us_8, us_9, us_10, us_11, rw_zero, rw_succ, Option.toList_some, Option.toList_none, List.cons_append, List.nil_append, cat_int, cat_ref, cat_null, iI_add, iI_sub, iI_mul, iI_neg, List.length_cons, List.length_nil, ↓reduceIte, va_rf_some, iI_div, iI_n0, iI_eq, c]
    exact hN S V A P hT hI hJ
theorem lw_269 (hK : exK t) (hk : k < 26) (hJ : lwJ xs t V A P S) (hT : S.T = []) (hI : S.I 0 = some ([], [])) (hN : ∀ (S' : aS) (V : Nat → Nat → Value) (A : Nat → Nat → Int32) (P : Nat → Nat → Option Nat), S'.T = [] → S'.I 0 = some ([], []) → lwJ xs t V A P S' → Ev 40 84 360 [.ref 2, .ref 3, .int (iI 0), .int (iI (k : Int)), .int y, a5, .null, a7, a8, a9] [] (t, V, A, P) Q) : Ev 40 84 269 [.ref 2, .ref 3, .int (iI 0), .int (iI (k : Int)), .int y, a5, .null, a7, a8, a9] [] (t, V, A, P) Q := by
  have k0 := hK.1
  have hX := hJ.wo.1
  obtain ⟨r1, r2, r3⟩ := rec_ok hX
  have go : ∀ (V : Nat → Nat → Value) (A : Nat → Nat → Int32) (P : Nat → Nat → Option Nat), lwJ xs t V A P S → Ev 40 84 292 [.ref 2, .ref 3, .int (iI 0), .int (iI (k : Int)), .int y, a5, .null, a7, a8, a9] [] (t, V, A, P) Q := fun V A P hJ => by
    simp (disch := first | assumption | omega | exact isB_z | exact isB_o | exact iI_in' (by assumption) (by omega) (by omega) | exact cat_int _ | exact cat_ref _ | exact cat_null | decide) only [↓x_84_292, ↓x_84_293]
    refine k_levels (d := 18) hK hJ (fun V A P hJ => ?_)
    simp (disch := first | assumption | omega | exact isB_z | exact isB_o | exact iI_in' (by assumption) (by omega) (by omega) | exact cat_int _ | exact cat_ref _ | exact cat_null | decide) only [↓x_84_296, up1_same, up1_ne, up1_up1, us_0, us_1, us_2, us_3, us_4, us_5, us_6, us_7, us_8, us_9, us_10, us_11, rw_zero, rw_succ, Option.toList_some, Option.toList_none, List.cons_append, List.nil_append, cat_int, cat_ref, cat_null, iI_add, iI_sub, iI_mul, iI_neg, List.length_cons, List.length_nil, ↓reduceIte, va_rf_some, iI_eq, show ¬ (1 : Int) = 0 by omega]
    exact lw_301 hK hk hJ hT hI hN
  simp (disch := first | assumption | omega | exact isB_z | exact isB_o | exact iI_in' (by assumption) (by omega) (by omega) | exact cat_int _ | exact cat_ref _ | exact cat_null | decide) only [↓x_84_269, ↓x_84_270, ↓x_84_271]
  refine kJ_recent (d := 20) hK hJ (by omega) (fun V A P hJ => ?_)
  simp (disch := first | assumption | omega | exact isB_z | exact isB_o | exact iI_in' (by assumption) (by omega) (by omega) | exact cat_int _ | exact cat_ref _ | exact cat_null | decide) only [↓x_84_274, ↓x_84_275, ↓x_84_276, up1_same, up1_ne, up1_up1, us_0, us_1, us_2, us_3, us_4, us_5, us_6, us_7, us_8, us_9, us_10, us_11, rw_zero, rw_succ, Option.toList_some, Option.toList_none, List.cons_append, List.nil_append, cat_int, cat_ref, cat_null, iI_add, iI_sub, iI_mul, iI_neg, List.length_cons, List.length_nil, ↓reduceIte, va_rf_some]
  refine kJ_recent (d := 20) hK hJ (by omega) (fun V A P hJ => ?_)
  by_cases c : aRecent S.X 0 = aRecent S.X 1
  · have c2 := r1 c
    have c3 : aRecent S.X 1 = -9 := by rw [← c]; exact c2
    simp (disch := first | assumption | omega | exact isB_z | exact isB_o | exact iI_in' (by assumption) (by omega) (by omega) | exact cat_int _ | exact cat_ref _ | exact cat_null | decide) only [↓x_84_279, ↓x_84_282, ↓x_84_283, ↓x_84_284, up1_same, up1_ne, up1_up1, us_0, us_1, us_2, us_3, us_4, us_5, us_6, us_7, us_8, us_9, us_10, us_11, rw_zero, rw_succ, Option.toList_some, Option.toList_none, List.cons_append, List.nil_append, cat_int, cat_ref, cat_null, iI_add, iI_sub, iI_mul, iI_neg, List.length_cons, List.length_nil, ↓reduceIte, va_rf_some, c2, c3]
    refine kJ_recent (d := 20) hK hJ (by omega) (fun V A P hJ => ?_)
    simp (disch := first | assumption | omega | exact isB_z | exact isB_o | exact iI_in' (by assumption) (by omega) (by omega) | exact cat_int _ | exact cat_ref _ | exact cat_null | decide) only [↓x_84_287, ↓x_84_289, up1_same, up1_ne, up1_up1, us_0, us_1, us_2, us_3, us_4, us_5, us_6, us_7, us_8, us_9, us_10, us_11, rw_zero, rw_succ, Option.toList_some, Option.toList_none, List.cons_append, List.nil_append, cat_int, cat_ref, cat_null, iI_add, iI_sub, iI_mul, iI_neg, List.length_cons, List.length_nil, ↓reduceIte, va_rf_some, c2]
    exact go V A P hJ
  · simp (disch := first | assumption | omega | exact isB_z | exact isB_o | exact iI_in' (by assumption) (by omega) (by omega) | exact cat_int _ | exact cat_ref _ | exact cat_null | decide) only [↓x_84_279, up1_same, up1_ne, up1_up1, us_0, us_1, us_2, us_3, us_4, us_5, us_6, us_7, us_8, us_9, us_10, us_11, rw_zero, rw_succ, Option.toList_some, Option.toList_none, List.cons_append, List.nil_append, cat_int, cat_ref, cat_null, iI_add, iI_sub, iI_mul, iI_neg, List.length_cons, List.length_nil, ↓reduceIte, va_rf_some, iI_eq, c]
    exact go V A P hJ
end
