/-! THE LAW, on the small machine -/
theorem law_pure (L : Nat) (xs : Nat → Int32) (hL : L ≤ 260) : Ev 40 84 0 [.ref 2, .null, .null, .null, .null, .null, .null, .null, .null, .null] [] (mu0 L xs) (fun v μ' => v = some (.int 1) ∧ μ'.1.1 ≤ 600000 ∧ μ'.1.2.1 ≤ 7302250) := by
  obtain ⟨Q, hQd⟩ : ∃ Q : Option Value → mM → Prop, Q = fun v μ' => v = some (.int 1) ∧ μ'.1.1 ≤ 600000 ∧ μ'.1.2.1 ≤ 7302250 := ⟨_, rfl⟩
  rw [← hQd]
  obtain ⟨K0, hK0⟩ : ∃ K0 : Nat → Nat × Nat, K0 = fun i => if i = 0 then (10, 34) else if i = 1 then (10, 64) else if i = 2 then (10, L) else (99, 0) := ⟨_, rfl⟩
  obtain ⟨A0, hA0⟩ : ∃ A0 : Nat → Nat → Int32, A0 = fun i j => if i = 0 then iI (asA.getD j 0) else if i = 1 then iI (asM.getD j 0) else xs j := ⟨_, rfl⟩
  have hmu : mu0 L xs = ((3, 0, K0), (fun _ _ => .null), A0, (fun _ _ => none)) := by rw [hK0, hA0]; rfl
  rw [hmu]
  have a0 : ∀ j, A0 0 j = iI (asA.getD j 0) := fun j => by rw [hA0]; rfl
  have a1 : ∀ j, A0 1 j = iI (asM.getD j 0) := fun j => by rw [hA0]; rfl
  have a2 : ∀ j, A0 2 j = xs j := fun j => by rw [hA0]; rfl
  have b0 : K0 0 = (10, 34) := by rw [hK0]; rfl
  have b1 : K0 1 = (10, 64) := by rw [hK0]; rfl
  have b2 : K0 2 = (10, L) := by rw [hK0]; rfl
  clear hA0 hK0 hmu
  simp (disch := first | assumption | omega | exact isB_z | exact isB_o | exact cat_int _ | exact cat_ref _ | exact cat_null | exact up1_same _ _ _ | exact congrArg Prod.fst (up1_same _ _ _) | exact kd_i (congrArg Prod.fst (up1_same _ _ _)) | (refine kd_i ?_; (repeat refine up_n (by omega) ?_); assumption) | ((repeat refine up_n (by omega) ?_); assumption) | decide) only [↓x_84_0, ↓x_84_3, up1_same, up1_ne, up1_up1, us_0, us_1, us_2, us_3, us_4, us_5, us_6, us_7, us_8, us_9, us_10, us_11, rw_zero, rw_succ, Option.toList_some, Option.toList_none, List.cons_append, List.nil_append, cat_int, cat_ref, cat_null, iI_add, iI_sub, iI_mul, iI_neg, List.length_cons, List.length_nil, ↓reduceIte, va_rf_some]
  simp (disch := first | assumption | omega | exact isB_z | exact isB_o | exact cat_int _ | exact cat_ref _ | exact cat_null | exact up1_same _ _ _ | exact congrArg Prod.fst (up1_same _ _ _) | exact kd_i (congrArg Prod.fst (up1_same _ _ _)) | (refine kd_i ?_; (repeat refine up_n (by omega) ?_); assumption) | ((repeat refine up_n (by omega) ?_); assumption) | decide) only [↓x_84_4, up1_same, up1_ne, up1_up1, us_0, us_1, us_2, us_3, us_4, us_5, us_6, us_7, us_8, us_9, us_10, us_11, rw_zero, rw_succ, Option.toList_some, Option.toList_none, List.cons_append, List.nil_append, cat_int, cat_ref, cat_null, iI_add, iI_sub, iI_mul, iI_neg, List.length_cons, List.length_nil, ↓reduceIte, va_rf_some]
  refine k_EI (d := 37) (by rw [up1_same]) (up1_same _ _ _) (fun V A K1 P q1 q2 q3 q4 => ?_)
  have hk : ∀ a, a < 3 → K1 a = K0 a := fun a ha => by rw [q2 a (by omega), up1_ne (by omega)]
  obtain ⟨t, ht⟩ : ∃ t : mL, t = (62, 0 + 12 + 1220, K1) := ⟨_, rfl⟩
  rw [← ht] at q1 ⊢
  have hsc : kd t 2 = 10 ∧ ln t 2 = L := by
    rw [ht]
    exact ⟨by show (K1 2).1 = 10; rw [hk 2 (by omega), b2], by show (K1 2).2 = L; rw [hk 2 (by omega), b2]⟩
  have hT : tabs t A := by
    rw [ht]
    refine ⟨?_, ?_, ?_, ?_, fun j => ?_, fun j => ?_⟩
    · show (K1 0).1 = 10; rw [hk 0 (by omega), b0]
    · show (K1 1).1 = 10; rw [hk 1 (by omega), b1]
    · show (K1 0).2 = 34; rw [hk 0 (by omega), b0]
    · show (K1 1).2 = 64; rw [hk 1 (by omega), b1]
    · rw [q3 0 (by omega)]; exact a0 j
    · rw [q3 1 (by omega)]; exact a1 j
  have hfin : ∀ (V' : Nat → Nat → Value) (A' : Nat → Nat → Int32) (P' : Nat → Nat → Option Nat), Q (some (.int (iI 1))) (t, V', A', P') := fun V' A' P' => by
    rw [hQd, ht]
    exact ⟨by rw [iI_1], by show 62 ≤ 600000; decide, by show 0 + 12 + 1220 ≤ 7302250; decide⟩
  obtain ⟨S, hS⟩ : ∃ S : aS, S = aS.mk ([], []) [] (fun _ => none) [] := ⟨_, rfl⟩
  have hJ : lwJ xs t V A P S := ⟨_, by rw [hS]; exact q4, hT, fun j => by rw [q3 2 (by omega)]; exact a2 j⟩
  clear q4 hT q3 q2 hk
  have k0 := q1.1
  have e1 : aUndo S = (-2, S) := by rw [hS]; rfl
  have e2 : aBack S 1 = (-2, S) := by rw [hS]; rfl
  have e3 : aClears S = (-2, S) := by rw [hS]; rfl
  have e4 : aRead S.X 0 0 5 = -2000000 := by rw [hS]; rfl
  have e5 : aCuts S.X 0 = -9 := by rw [hS]; rfl
  have e6 : aRecent S.X 0 = -9 := by rw [hS]; rfl
  simp (disch := first | assumption | omega | exact isB_z | exact isB_o | exact iI_in' (by assumption) (by omega) (by omega) | exact cat_int _ | exact cat_ref _ | exact cat_null | decide) only [↓x_84_7, ↓x_84_8, ↓x_84_9, up1_same, up1_ne, up1_up1, us_0, us_1, us_2, us_3, us_4, us_5, us_6, us_7, us_8, us_9, us_10, us_11, rw_zero, rw_succ, Option.toList_some, Option.toList_none, List.cons_append, List.nil_append, cat_int, cat_ref, cat_null, iI_add, iI_sub, iI_mul, iI_neg, List.length_cons, List.length_nil, ↓reduceIte, va_rf_some]
  refine kJ_undo (d := 20) q1 hJ (fun V A P hJ => ?_)
  rw [e1] at hJ ⊢
  simp (disch := first | assumption | omega | exact isB_z | exact isB_o | exact iI_in' (by assumption) (by omega) (by omega) | exact cat_int _ | exact cat_ref _ | exact cat_null | decide) only [↓x_84_12, ↓x_84_14, ↓x_84_17, ↓x_84_18, ↓x_84_19, up1_same, up1_ne, up1_up1, us_0, us_1, us_2, us_3, us_4, us_5, us_6, us_7, us_8, us_9, us_10, us_11, rw_zero, rw_succ, Option.toList_some, Option.toList_none, List.cons_append, List.nil_append, cat_int, cat_ref, cat_null, iI_add, iI_sub, iI_mul, iI_neg, List.length_cons, List.length_nil, ↓reduceIte, va_rf_some]
  refine kJ_back (d := 20) q1 hJ (by omega) (fun V A P hJ => ?_)
  rw [e2] at hJ ⊢
  simp (disch := first | assumption | omega | exact isB_z | exact isB_o | exact iI_in' (by assumption) (by omega) (by omega) | exact cat_int _ | exact cat_ref _ | exact cat_null | decide) only [↓x_84_22, ↓x_84_24, ↓x_84_27, ↓x_84_28, up1_same, up1_ne, up1_up1, us_0, us_1, us_2, us_3, us_4, us_5, us_6, us_7, us_8, us_9, us_10, us_11, rw_zero, rw_succ, Option.toList_some, Option.toList_none, List.cons_append, List.nil_append, cat_int, cat_ref, cat_null, iI_add, iI_sub, iI_mul, iI_neg, List.length_cons, List.length_nil, ↓reduceIte, va_rf_some]
  refine kJ_clears (d := 20) q1 hJ (fun V A P hJ => ?_)
  rw [e3] at hJ ⊢
  simp (disch := first | assumption | omega | exact isB_z | exact isB_o | exact iI_in' (by assumption) (by omega) (by omega) | exact cat_int _ | exact cat_ref _ | exact cat_null | decide) only [↓x_84_31, ↓x_84_33, ↓x_84_36, ↓x_84_37, ↓x_84_38, ↓x_84_39, ↓x_84_40, up1_same, up1_ne, up1_up1, us_0, us_1, us_2, us_3, us_4, us_5, us_6, us_7, us_8, us_9, us_10, us_11, rw_zero, rw_succ, Option.toList_some, Option.toList_none, List.cons_append, List.nil_append, cat_int, cat_ref, cat_null, iI_add, iI_sub, iI_mul, iI_neg, List.length_cons, List.length_nil, ↓reduceIte, va_rf_some]
  refine kJ_read (d := 20) q1 hJ (by omega) (by omega) (by omega) (fun V A P hJ => ?_)
  simp (disch := first | assumption | omega | exact isB_z | exact isB_o | exact iI_in' (by assumption) (by omega) (by omega) | exact cat_int _ | exact cat_ref _ | exact cat_null | decide) only [↓x_84_43, ↓x_84_45, ↓x_84_48, ↓x_84_49, ↓x_84_50, up1_same, up1_ne, up1_up1, us_0, us_1, us_2, us_3, us_4, us_5, us_6, us_7, us_8, us_9, us_10, us_11, rw_zero, rw_succ, Option.toList_some, Option.toList_none, List.cons_append, List.nil_append, cat_int, cat_ref, cat_null, iI_add, iI_sub, iI_mul, iI_neg, List.length_cons, List.length_nil, ↓reduceIte, va_rf_some, e4]
  refine kJ_cuts (d := 20) q1 hJ (by omega) (fun V A P hJ => ?_)
  simp (disch := first | assumption | omega | exact isB_z | exact isB_o | exact iI_in' (by assumption) (by omega) (by omega) | exact cat_int _ | exact cat_ref _ | exact cat_null | decide) only [↓x_84_53, ↓x_84_55, ↓x_84_58, ↓x_84_59, ↓x_84_60, up1_same, up1_ne, up1_up1, us_0, us_1, us_2, us_3, us_4, us_5, us_6, us_7, us_8, us_9, us_10, us_11, rw_zero, rw_succ, Option.toList_some, Option.toList_none, List.cons_append, List.nil_append, cat_int, cat_ref, cat_null, iI_add, iI_sub, iI_mul, iI_neg, List.length_cons, List.length_nil, ↓reduceIte, va_rf_some, e5]
  refine kJ_recent (d := 20) q1 hJ (by omega) (fun V A P hJ => ?_)
  simp (disch := first | assumption | omega | exact isB_z | exact isB_o | exact iI_in' (by assumption) (by omega) (by omega) | exact cat_int _ | exact cat_ref _ | exact cat_null | decide) only [↓x_84_63, ↓x_84_65, ↓x_84_70, ↓x_84_71, ↓x_84_72, up1_same, up1_ne, up1_up1, us_0, us_1, us_2, us_3, us_4, us_5, us_6, us_7, us_8, us_9, us_10, us_11, rw_zero, rw_succ, Option.toList_some, Option.toList_none, List.cons_append, List.nil_append, cat_int, cat_ref, cat_null, iI_add, iI_sub, iI_mul, iI_neg, List.length_cons, List.length_nil, ↓reduceIte, va_rf_some, e6]
  refine kJ_keep (d := 20) q1 hJ (by omega) (fun V A P hJ => ?_)
  have e7 : aKeep S 0 = (0, aS.mk S.X S.U (fun j => if j = 0 then some ([], []) else S.I j) S.T) := by rw [hS]; rfl
  rw [e7] at hJ ⊢
  simp (disch := first | assumption | omega | exact isB_z | exact isB_o | exact iI_in' (by assumption) (by omega) (by omega) | exact cat_int _ | exact cat_ref _ | exact cat_null | decide) only [↓x_84_75, ↓x_84_76, ↓x_84_77, up1_same, up1_ne, up1_up1, us_0, us_1, us_2, us_3, us_4, us_5, us_6, us_7, us_8, us_9, us_10, us_11, rw_zero, rw_succ, Option.toList_some, Option.toList_none, List.cons_append, List.nil_append, cat_int, cat_ref, cat_null, iI_add, iI_sub, iI_mul, iI_neg, List.length_cons, List.length_nil, ↓reduceIte, va_rf_some]
  exact lw_loop (L := L) q1 hsc hL hfin 26 0 _ _ _ _ _ _ V A P rfl (by rw [hS]) rfl rfl hJ
