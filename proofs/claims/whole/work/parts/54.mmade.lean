/-! THE MODEL, made -/
section
variable {d : Nat} {V : Nat → Nat → Value} {A : Nat → Nat → Int32} {P : Nat → Nat → Option Nat} {Q : Option Value → mM → Prop}
theorem k_bares' {t : mL} {g : Nat → Int} (hK : kd t 62 = 5 ∧ kd t 63 = 6 ∧ ln t 63 = 228) (hv : V 62 = mdR g) (hQ : ∀ (A' : Nat → Nat → Int32), mH (A' 63) ([], []) → (∀ a, a ≠ 63 → A' a = A a) → Q none (t, V, A', P)) : Call (d + 1) 78 [.ref 62] (t, V, A, P) Q := by
  obtain ⟨m0, m1, l1⟩ := hK
  have hl : ∀ (A0 : Nat → Nat → Int32) (Q : Option Value → mM → Prop), (∀ (A' : Nat → Nat → Int32), (∀ v : Nat, v < 228 → A' 63 v = iI 0) → (∀ a, a ≠ 63 → A' a = A0 a) → Ev d 78 22 [.ref 62, .int (iI 228)] [] (t, V, A', P) Q) → ∀ (j n : Nat) (A : Nat → Nat → Int32), n + j = 228 → (∀ v : Nat, v < n → A 63 v = iI 0) → (∀ a, a ≠ 63 → A a = A0 a) → Ev d 78 2 [.ref 62, .int (iI n)] [] (t, V, A, P) Q := by
    intro A0 Q hQ j
    induction j with
    | zero =>
      intro n A hj hT hA
      have : n = 228 := by omega
      subst this
      rw [x_78_2]
      simp (disch := first | assumption | omega | exact isB_z | exact isB_o | exact iI_in' (by assumption) (by omega) (by omega) | exact cat_int _ | exact cat_ref _ | exact cat_null | decide) only [↓x_78_3, ↓x_78_6, up1_same, up1_ne, up1_up1, us_0, us_1, us_2, us_3, us_4, us_5, us_6, us_7, us_8, us_9, us_10, us_11, rw_zero, rw_succ, Option.toList_some, Option.toList_none, List.cons_append, List.nil_append, cat_int, cat_ref, cat_null, iI_add, iI_sub, iI_mul, iI_neg, List.length_cons, List.length_nil, ↓reduceIte, va_rf_some, Int.reduceToNat, md_0, md_1, md_2, md_3, md_4, md_5, md_6, md_7, md_8, md_9, md_10, md_11, md_12, md_13, md_14, md_15, md_16, md_17, md_18, md_19, md_20, md_21, md_22, md_23, md_24, md_25, md_26, md_27, md_28, md_29, md_30, md_31, mu_0, mu_3, mu_7, mu_9, mu_12, mu_13, mu_14, mu_15, mu_16, mu_17, mu_18, mu_23, mu_24, mu_26, mu_27, mu_28, mu_29, iI_lt]
      simp
      exact hQ A hT hA
    | succ j ih =>
      intro n A hj hT hA
      rw [x_78_2]
      have e : (n : Int) < 228 := by omega
      have tn1 : ((n : Nat) : Int).toNat = n := Int.toNat_natCast _
      have ci : (n : Int) + 1 = ((n + 1 : Nat) : Int) := by omega
      simp (disch := first | assumption | omega | exact isB_z | exact isB_o | exact iI_in' (by assumption) (by omega) (by omega) | exact cat_int _ | exact cat_ref _ | exact cat_null | decide) only [↓x_78_3, ↓x_78_6, ↓x_78_9, ↓x_78_10, ↓x_78_13, ↓x_78_14, ↓x_78_15, ↓x_78_16, ↓x_78_19, up1_same, up1_ne, up1_up1, us_0, us_1, us_2, us_3, us_4, us_5, us_6, us_7, us_8, us_9, us_10, us_11, rw_zero, rw_succ, Option.toList_some, Option.toList_none, List.cons_append, List.nil_append, cat_int, cat_ref, cat_null, iI_add, iI_sub, iI_mul, iI_neg, List.length_cons, List.length_nil, ↓reduceIte, va_rf_some, Int.reduceToNat, md_0, md_1, md_2, md_3, md_4, md_5, md_6, md_7, md_8, md_9, md_10, md_11, md_12, md_13, md_14, md_15, md_16, md_17, md_18, md_19, md_20, md_21, md_22, md_23, md_24, md_25, md_26, md_27, md_28, md_29, md_30, md_31, mu_0, mu_3, mu_7, mu_9, mu_12, mu_13, mu_14, mu_15, mu_16, mu_17, mu_18, mu_23, mu_24, mu_26, mu_27, mu_28, mu_29, hv, iI_lt, e, if_true, iI_cl, tn1, ci]
      refine ih (n + 1) _ (by omega) (fun v hv => ?_) (fun a h1 => by rw [up1_ne h1]; exact hA a h1)
      rw [up1_same]
      by_cases c : v = n
      · subst c; rw [upd_same]
      · rw [upd_ne c]; exact hT v (by omega)
  simp (disch := first | assumption | omega | exact isB_z | exact isB_o | exact iI_in' (by assumption) (by omega) (by omega) | exact cat_int _ | exact cat_ref _ | exact cat_null | decide) only [c_78, ↓x_78_0, ↓x_78_1, up1_same, up1_ne, up1_up1, us_0, us_1, us_2, us_3, us_4, us_5, us_6, us_7, us_8, us_9, us_10, us_11, rw_zero, rw_succ, Option.toList_some, Option.toList_none, List.cons_append, List.nil_append, cat_int, cat_ref, cat_null, iI_add, iI_sub, iI_mul, iI_neg, List.length_cons, List.length_nil, ↓reduceIte, va_rf_some, Int.reduceToNat, md_0, md_1, md_2, md_3, md_4, md_5, md_6, md_7, md_8, md_9, md_10, md_11, md_12, md_13, md_14, md_15, md_16, md_17, md_18, md_19, md_20, md_21, md_22, md_23, md_24, md_25, md_26, md_27, md_28, md_29, md_30, md_31, mu_0, mu_3, mu_7, mu_9, mu_12, mu_13, mu_14, mu_15, mu_16, mu_17, mu_18, mu_23, mu_24, mu_26, mu_27, mu_28, mu_29]
  refine hl A Q (fun A1 q1 q2 => ?_) 228 0 A (by omega) (fun v hv => absurd hv (by omega)) (fun _ _ => rfl)
  simp (disch := first | assumption | omega | exact isB_z | exact isB_o | exact iI_in' (by assumption) (by omega) (by omega) | exact cat_int _ | exact cat_ref _ | exact cat_null | decide) only [↓x_78_22, ↓x_78_23, ↓x_78_26, ↓x_78_27, ↓x_78_28, ↓x_78_29, ↓x_78_30, ↓x_78_33, ↓x_78_34, ↓x_78_36, ↓x_78_37, ↓x_78_38, ↓x_78_41, ↓x_78_42, ↓x_78_44, ↓x_78_45, up1_same, up1_ne, up1_up1, us_0, us_1, us_2, us_3, us_4, us_5, us_6, us_7, us_8, us_9, us_10, us_11, rw_zero, rw_succ, Option.toList_some, Option.toList_none, List.cons_append, List.nil_append, cat_int, cat_ref, cat_null, iI_add, iI_sub, iI_mul, iI_neg, List.length_cons, List.length_nil, ↓reduceIte, va_rf_some, Int.reduceToNat, md_0, md_1, md_2, md_3, md_4, md_5, md_6, md_7, md_8, md_9, md_10, md_11, md_12, md_13, md_14, md_15, md_16, md_17, md_18, md_19, md_20, md_21, md_22, md_23, md_24, md_25, md_26, md_27, md_28, md_29, md_30, md_31, mu_0, mu_3, mu_7, mu_9, mu_12, mu_13, mu_14, mu_15, mu_16, mu_17, mu_18, mu_23, mu_24, mu_26, mu_27, mu_28, mu_29, hv, iI_cl]
  refine hQ _ (mH_nil ?_ ?_ ?_ ?_) (fun a ha => by rw [up1_ne ha]; exact q2 a ha)
  · rw [up1_same]; simp (disch := omega) only [upd_same, upd_ne, q1]
  · rw [up1_same]; simp (disch := omega) only [upd_same, upd_ne, q1]
  · rw [up1_same]; simp (disch := omega) only [upd_same, upd_ne, q1]
  · rw [up1_same]; simp (disch := omega) only [upd_same, upd_ne, q1]
theorem mdR_new : rw' [.int 0, .ref 63, .ref 64, .int 0, .ref 65, .ref 66, .ref 67, .int 0, .ref 68, .int 0, .ref 69, .ref 70, .int 0, .int 0, .int 0, .int 0, .int 0, .int 0, .int 0, .ref 71, .ref 72, .ref 73, .ref 74, .int 0, .int 0, .ref 75, .int 0, .int 0, .int 0, .int 0, .ref 76, .ref 77] = mdR (fun _ => 0) := by
  funext k
  match k with
  | 0 => exact congrArg Value.int iI0.symm
  | 1 => exact rfl
  | 2 => exact rfl
  | 3 => exact congrArg Value.int iI0.symm
  | 4 => exact rfl
  | 5 => exact rfl
  | 6 => exact rfl
  | 7 => exact congrArg Value.int iI0.symm
  | 8 => exact rfl
  | 9 => exact congrArg Value.int iI0.symm
  | 10 => exact rfl
  | 11 => exact rfl
  | 12 => exact congrArg Value.int iI0.symm
  | 13 => exact congrArg Value.int iI0.symm
  | 14 => exact congrArg Value.int iI0.symm
  | 15 => exact congrArg Value.int iI0.symm
  | 16 => exact congrArg Value.int iI0.symm
  | 17 => exact congrArg Value.int iI0.symm
  | 18 => exact congrArg Value.int iI0.symm
  | 19 => exact rfl
  | 20 => exact rfl
  | 21 => exact rfl
  | 22 => exact rfl
  | 23 => exact congrArg Value.int iI0.symm
  | 24 => exact congrArg Value.int iI0.symm
  | 25 => exact rfl
  | 26 => exact congrArg Value.int iI0.symm
  | 27 => exact congrArg Value.int iI0.symm
  | 28 => exact congrArg Value.int iI0.symm
  | 29 => exact congrArg Value.int iI0.symm
  | 30 => exact rfl
  | 31 => exact rfl
  | n + 32 =>
    show Value.null = _
    unfold mdR
    split <;> first | rfl | (exfalso; omega) | (rw [if_neg (by omega)])
set_option maxHeartbeats 1000000 in
theorem k_MI {S : Nat} {K : Nat → Nat × Nat} (hk : (K 62).1 = 5) (hw : V 62 = rw' [.int 0, .null, .null, .int 0, .null, .null, .null, .int 0, .null, .int 0, .null, .null, .int 0, .int 0, .int 0, .int 0, .int 0, .int 0, .int 0, .null, .null, .null, .null, .int 0, .int 0, .null, .int 0, .int 0, .int 0, .int 0, .null, .null])
    (hQ : ∀ (V' : Nat → Nat → Value) (A' : Nat → Nat → Int32) (K' : Nat → Nat × Nat), mK (78, S + 2694, K') → (∀ a, a < 63 → K' a = K a) → V' 62 = mdR (fun _ => 0) → (∀ a, a ≠ 62 → V' a = V a) → (∀ a, a < 62 → A' a = A a) → RM (fun _ => 0) A' (aS.mk ([], []) [] (fun _ => none) []) → Q none ((78, S + 2694, K'), V', A', P)) :
    Call (d + 2) 77 [.ref 62] ((63, S, K), V, A, P) Q := by
  simp (disch := first | assumption | omega | exact isB_z | exact isB_o | exact cat_int _ | exact cat_ref _ | exact cat_null | exact up1_same _ _ _ | exact congrArg Prod.fst (up1_same _ _ _) | exact kd_i (congrArg Prod.fst (up1_same _ _ _)) | (refine kd_i ?_; (repeat refine up_n (by omega) ?_); assumption) | ((repeat refine up_n (by omega) ?_); assumption) | decide) only [c_77, ↓x_77_0, ↓x_77_1, ↓x_77_4, ↓x_77_5, ↓x_77_8, ↓x_77_10, ↓x_77_13, ↓x_77_14, ↓x_77_17, ↓x_77_19, ↓x_77_22, ↓x_77_23, ↓x_77_26, ↓x_77_28, ↓x_77_31, ↓x_77_32, ↓x_77_33, ↓x_77_35, ↓x_77_38, ↓x_77_39, ↓x_77_41, ↓x_77_43, ↓x_77_46, ↓x_77_47, ↓x_77_49, ↓x_77_51, ↓x_77_54, ↓x_77_55, ↓x_77_57, ↓x_77_59, ↓x_77_62, ↓x_77_63, ↓x_77_65, ↓x_77_67, ↓x_77_70, ↓x_77_71, ↓x_77_73, ↓x_77_75, ↓x_77_78, ↓x_77_79, ↓x_77_81, ↓x_77_83, ↓x_77_86, ↓x_77_87, ↓x_77_89, ↓x_77_91, ↓x_77_94, ↓x_77_95, ↓x_77_97, ↓x_77_99, ↓x_77_102, ↓x_77_103, ↓x_77_106, ↓x_77_108, ↓x_77_111, ↓x_77_112, ↓x_77_114, ↓x_77_116, ↓x_77_119, ↓x_77_120, ↓x_77_122, ↓x_77_124, ↓x_77_127, us_12, us_13, us_14, us_15, us_16, us_17, us_18, us_19, us_20, us_21, us_22, us_23, us_24, us_25, us_26, us_27, us_28, us_29, us_30, us_31, up1_same, up1_ne, up1_up1, us_0, us_1, us_2, us_3, us_4, us_5, us_6, us_7, us_8, us_9, us_10, us_11, rw_zero, rw_succ, Option.toList_some, Option.toList_none, List.cons_append, List.nil_append, cat_int, cat_ref, cat_null, iI_add, iI_sub, iI_mul, iI_neg, List.length_cons, List.length_nil, ↓reduceIte, va_rf_some, hw]
  simp (disch := first | assumption | omega | exact isB_z | exact isB_o | exact cat_int _ | exact cat_ref _ | exact cat_null | exact up1_same _ _ _ | exact congrArg Prod.fst (up1_same _ _ _) | exact kd_i (congrArg Prod.fst (up1_same _ _ _)) | (refine kd_i ?_; (repeat refine up_n (by omega) ?_); assumption) | ((repeat refine up_n (by omega) ?_); assumption) | decide) only [↓x_77_128, us_12, us_13, us_14, us_15, us_16, us_17, us_18, us_19, us_20, us_21, us_22, us_23, us_24, us_25, us_26, us_27, us_28, us_29, us_30, us_31, up1_same, up1_ne, up1_up1, us_0, us_1, us_2, us_3, us_4, us_5, us_6, us_7, us_8, us_9, us_10, us_11, rw_zero, rw_succ, Option.toList_some, Option.toList_none, List.cons_append, List.nil_append, cat_int, cat_ref, cat_null, iI_add, iI_sub, iI_mul, iI_neg, List.length_cons, List.length_nil, ↓reduceIte, va_rf_some]
  refine k_bares' (g := fun _ => 0) ⟨?_, ?_, ?_⟩ ?_ (fun A' q1 q2 => ?_)
  · simp (disch := omega) only [kd, up1_same, up1_ne]; exact hk
  · simp (disch := omega) only [kd, up1_same, up1_ne]
  · simp (disch := omega) only [ln, up1_same, up1_ne]
  · rw [up1_same]; exact mdR_new
  · simp (disch := first | assumption | omega | exact isB_z | exact isB_o | exact cat_int _ | exact cat_ref _ | exact cat_null | exact up1_same _ _ _ | exact congrArg Prod.fst (up1_same _ _ _) | exact kd_i (congrArg Prod.fst (up1_same _ _ _)) | (refine kd_i ?_; (repeat refine up_n (by omega) ?_); assumption) | ((repeat refine up_n (by omega) ?_); assumption) | decide) only [↓x_77_131, us_12, us_13, us_14, us_15, us_16, us_17, us_18, us_19, us_20, us_21, us_22, us_23, us_24, us_25, us_26, us_27, us_28, us_29, us_30, us_31, up1_same, up1_ne, up1_up1, us_0, us_1, us_2, us_3, us_4, us_5, us_6, us_7, us_8, us_9, us_10, us_11, rw_zero, rw_succ, Option.toList_some, Option.toList_none, List.cons_append, List.nil_append, cat_int, cat_ref, cat_null, iI_add, iI_sub, iI_mul, iI_neg, List.length_cons, List.length_nil, ↓reduceIte, va_rf_some]
    refine hQ _ A' _ ?_ (fun a ha => ?_) ?_ (fun a ha => up1_ne ha) (fun a ha => ?_) ?_
    · simp (disch := omega) only [mK, kd, ln, up1_same, up1_ne, and_true, and_self]
      exact hk
    · simp (disch := omega) only [up1_ne]
    · rw [up1_same]; exact mdR_new
    · rw [q2 a (by omega)]; simp (disch := omega) only [up1_ne]
    · refine ⟨q1, rfl, fun i hi => absurd hi (Nat.not_lt_zero _), fun i hi => ?_, rfl, fun i hi => absurd hi (Nat.not_lt_zero _), Or.inl rfl⟩
      show A' 66 i = iI 0
      rw [q2 66 (by omega)]
      simp (disch := omega) only [up1_same, up1_ne]
      exact iI0.symm
end
