/-! ORDERS, made -/
section
variable {d : Nat} {V : Nat → Nat → Value} {A : Nat → Nat → Int32} {P : Nat → Nat → Option Nat} {Q : Option Value → mM → Prop}
theorem ordI_loop {w : Nat} {K0 : Nat → Nat × Nat} {V0 : Nat → Nat → Value} {P0 : Nat → Nat → Option Nat} {S1 : Nat} (hV0 : V0 w = orR w 0 0)
    (hQ : ∀ (V' : Nat → Nat → Value) (K' : Nat → Nat × Nat) (P' : Nat → Nat → Option Nat), (∀ a, a < w + 5 → K' a = K0 a) → (∀ i, i < 7 → K' (w + 5 + i) = (2, 5)) → (∀ a, a < w + 5 → V' a = V0 a) → (∀ i, i < 7 → V' (w + 5 + i) = wkR (-1) (-1) (-9) 0 0) → (∀ a, a ≠ w + 1 → P' a = P0 a) → (∀ i, i < 7 → P' (w + 1) i = some (w + 5 + i)) → Q none ((w + 12, S1, K'), V', A, P')) :
    ∀ (k j S : Nat) (K : Nat → Nat × Nat) (V : Nat → Nat → Value) (P : Nat → Nat → Option Nat), j + k = 7 → S + 5 * k = S1 → (K w).1 = 0 → K (w + 1) = (8, 7) → (∀ a, a < w + 5 → K a = K0 a) → (∀ i, i < j → K (w + 5 + i) = (2, 5)) → (∀ a, a < w + 5 → V a = V0 a) → (∀ i, i < j → V (w + 5 + i) = wkR (-1) (-1) (-9) 0 0) → (∀ a, a ≠ w + 1 → P a = P0 a) → (∀ i, i < j → P (w + 1) i = some (w + 5 + i)) → Ev (d + 1) 4 49 [.ref w, .int (iI j)] [] ((w + 5 + j, S, K), V, A, P) Q := by
  intro k
  induction k with
  | zero =>
    intro j S K V P hj hS hk0 hk1 hK1 hK2 hV1 hV2 hP1 hP2
    have : j = 7 := by omega
    subst this
    have : S = S1 := by omega
    subst this
    rw [x_4_49]
    simp (disch := first | assumption | omega | exact isB_z | exact isB_o | exact iI_in' (by assumption) (by omega) (by omega) | exact cat_int _ | exact cat_ref _ | exact cat_null | exact kd_i (by assumption) | exact kd_i (up_n (by omega) (by assumption)) | exact kd_i (up_n (by omega) (up_n (by omega) (by assumption))) | exact kd_i (up_n (by omega) (up_n (by omega) (up_n (by omega) (by assumption)))) | exact kd_i (congrArg Prod.fst (up1_same _ _ _)) | exact up1_same _ _ _ | decide) only [↓x_4_50, ↓x_4_52, ↓x_4_74, up1_same, up1_ne, up1_up1, us_0, us_1, us_2, us_3, us_4, us_5, us_6, us_7, us_8, us_9, us_10, us_11, rw_zero, rw_succ, Option.toList_some, Option.toList_none, List.cons_append, List.nil_append, cat_int, cat_ref, cat_null, iI_add, iI_sub, iI_mul, iI_neg, List.length_cons, List.length_nil, ↓reduceIte, va_rf_some, iI_lt, iI_le, Int.reduceLT, Int.reduceLE]
    simp
    exact hQ V K P hK1 hK2 hV1 hV2 hP1 hP2
  | succ k ih =>
    intro j S K V P hj hS hk0 hk1 hK1 hK2 hV1 hV2 hP1 hP2
    have e1 : ¬ (6 : Int) < j := by omega
    have e2 : (j : Int) ≤ 6 := by omega
    have tn1 : ((j : Nat) : Int).toNat = j := Int.toNat_natCast _
    have ci : (j : Int) + 1 = ((j + 1 : Nat) : Int) := by omega
    have hVw : V w = orR w 0 0 := (hV1 w (by omega)).trans hV0
    have k1 : (K (w + 1)).1 = 8 := by rw [hk1]
    have k2 : (up1 K (w + 5 + j) (2, 5) (w + 1)).2 = 7 := by rw [up1_ne (by omega), hk1]
    have hln : ln (w + 5 + j + 1, S + 5, up1 K (w + 5 + j) (2, 5)) (w + 1) = 7 := k2
    rw [x_4_49]
    simp (disch := first | assumption | omega | exact isB_z | exact isB_o | exact iI_in' (by assumption) (by omega) (by omega) | exact cat_int _ | exact cat_ref _ | exact cat_null | exact kd_i (by assumption) | exact kd_i (up_n (by omega) (by assumption)) | exact kd_i (up_n (by omega) (up_n (by omega) (by assumption))) | exact kd_i (up_n (by omega) (up_n (by omega) (up_n (by omega) (by assumption)))) | exact kd_i (congrArg Prod.fst (up1_same _ _ _)) | exact up1_same _ _ _ | decide) only [↓x_4_50, ↓x_4_52, ↓x_4_55, ↓x_4_56, ↓x_4_59, up1_same, up1_ne, up1_up1, us_0, us_1, us_2, us_3, us_4, us_5, us_6, us_7, us_8, us_9, us_10, us_11, rw_zero, rw_succ, Option.toList_some, Option.toList_none, List.cons_append, List.nil_append, cat_int, cat_ref, cat_null, iI_add, iI_sub, iI_mul, iI_neg, List.length_cons, List.length_nil, ↓reduceIte, va_rf_some, orR, hVw, iI_lt, iI_le, e1, e2, if_true, if_false]
    simp (disch := first | assumption | omega | exact isB_z | exact isB_o | exact iI_in' (by assumption) (by omega) (by omega) | exact cat_int _ | exact cat_ref _ | exact cat_null | exact kd_i (by assumption) | exact kd_i (up_n (by omega) (by assumption)) | exact kd_i (up_n (by omega) (up_n (by omega) (by assumption))) | exact kd_i (up_n (by omega) (up_n (by omega) (up_n (by omega) (by assumption)))) | exact kd_i (congrArg Prod.fst (up1_same _ _ _)) | exact up1_same _ _ _ | decide) only [↓x_4_60, ↓x_4_63, ↓x_4_64, up1_same, up1_ne, up1_up1, us_0, us_1, us_2, us_3, us_4, us_5, us_6, us_7, us_8, us_9, us_10, us_11, rw_zero, rw_succ, Option.toList_some, Option.toList_none, List.cons_append, List.nil_append, cat_int, cat_ref, cat_null, iI_add, iI_sub, iI_mul, iI_neg, List.length_cons, List.length_nil, ↓reduceIte, va_rf_some, k_WalkI]
    simp (disch := first | assumption | omega | exact isB_z | exact isB_o | exact iI_in' (by assumption) (by omega) (by omega) | exact cat_int _ | exact cat_ref _ | exact cat_null | exact kd_i (by assumption) | exact kd_i (up_n (by omega) (by assumption)) | exact kd_i (up_n (by omega) (up_n (by omega) (by assumption))) | exact kd_i (up_n (by omega) (up_n (by omega) (up_n (by omega) (by assumption)))) | exact kd_i (congrArg Prod.fst (up1_same _ _ _)) | exact up1_same _ _ _ | decide) only [↓x_4_67, ↓x_4_68, ↓x_4_71, up1_same, up1_ne, up1_up1, us_0, us_1, us_2, us_3, us_4, us_5, us_6, us_7, us_8, us_9, us_10, us_11, rw_zero, rw_succ, Option.toList_some, Option.toList_none, List.cons_append, List.nil_append, cat_int, cat_ref, cat_null, iI_add, iI_sub, iI_mul, iI_neg, List.length_cons, List.length_nil, ↓reduceIte, va_rf_some, iI_cl, tn1, ci]
    refine ih (j + 1) (S + 5) _ _ _ (by omega) (by omega) ?_ ?_ (fun a ha => ?_) (fun i hi => ?_) (fun a ha => ?_) (fun i hi => ?_) (fun a ha => ?_) (fun i hi => ?_)
    · rw [up1_ne (by omega)]; exact hk0
    · rw [up1_ne (by omega)]; exact hk1
    · rw [up1_ne (by omega)]; exact hK1 a ha
    · by_cases g : i = j
      · subst g; exact up1_same _ _ _
      · rw [up1_ne (by omega)]; exact hK2 i (by omega)
    · rw [up1_ne (by omega)]; exact hV1 a ha
    · by_cases g : i = j
      · subst g; exact up1_same _ _ _
      · rw [up1_ne (by omega)]; exact hV2 i (by omega)
    · rw [up1_ne ha]; exact hP1 a ha
    · rw [up1_same]
      by_cases g : i = j
      · subst g; exact up1_same _ _ _
      · rw [up1_ne g]; exact hP2 i (by omega)
theorem k_OrdI {w S : Nat} {K : Nat → Nat × Nat} (hk : (K w).1 = 0) (hw : V w = rw' [.null, .null, .null, .null, .int 0, .int 0])
    (hQ : ∀ (V' : Nat → Nat → Value) (K' : Nat → Nat × Nat) (P' : Nat → Nat → Option Nat), (∀ a, a ≤ w → K' a = K a) → K' (w + 1) = (8, 7) → K' (w + 2) = (6, 6) → K' (w + 3) = (6, 6) → K' (w + 4) = (6, 6) → (∀ i, i < 7 → K' (w + 5 + i) = (2, 5)) → (∀ a, a < w → V' a = V a) → V' w = orR w 0 0 → (∀ i, i < 7 → V' (w + 5 + i) = wkR (-1) (-1) (-9) 0 0) → (∀ a, a ≠ w + 1 → P' a = P a) → (∀ i, i < 7 → P' (w + 1) i = some (w + 5 + i)) → Q none ((w + 12, S + 60, K'), V', up1 (up1 (up1 A (w + 2) (fun _ => 0)) (w + 3) (fun _ => 0)) (w + 4) (fun _ => 0), P')) : Call (d + 2) 4 [.ref w] ((w + 1, S, K), V, A, P) Q := by
  have n1 : w ≠ w + 1 := by omega
  have n2 : w ≠ w + 1 + 1 := by omega
  have n3 : w ≠ w + 1 + 1 + 1 := by omega
  have n4 : w ≠ w + 1 + 1 + 1 + 1 := by omega
  have q1 : (up1 K (w + 1) (8, 7) w).1 = 0 := by rw [up1_ne n1]; exact hk
  have q2 : (up1 (up1 K (w + 1) (8, 7)) (w + 1 + 1) (6, 6) w).1 = 0 := by rw [up1_ne n2]; exact q1
  have q3 : (up1 (up1 (up1 K (w + 1) (8, 7)) (w + 1 + 1) (6, 6)) (w + 1 + 1 + 1) (6, 6) w).1 = 0 := by rw [up1_ne n3]; exact q2
  have q4 : (up1 (up1 (up1 (up1 K (w + 1) (8, 7)) (w + 1 + 1) (6, 6)) (w + 1 + 1 + 1) (6, 6)) (w + 1 + 1 + 1 + 1) (6, 6) w).1 = 0 := by rw [up1_ne n4]; exact q3
  simp (disch := first | assumption | omega | exact isB_z | exact isB_o | exact iI_in' (by assumption) (by omega) (by omega) | exact cat_int _ | exact cat_ref _ | exact cat_null | exact kd_i (by assumption) | exact kd_i (up_n (by omega) (by assumption)) | exact kd_i (up_n (by omega) (up_n (by omega) (by assumption))) | exact kd_i (up_n (by omega) (up_n (by omega) (up_n (by omega) (by assumption)))) | exact kd_i (congrArg Prod.fst (up1_same _ _ _)) | exact up1_same _ _ _ | decide) only [c_4, ↓x_4_0, ↓x_4_1, ↓x_4_4, ↓x_4_5, ↓x_4_7, ↓x_4_10, ↓x_4_13, ↓x_4_14, ↓x_4_16, ↓x_4_18, ↓x_4_21, ↓x_4_22, ↓x_4_24, ↓x_4_26, ↓x_4_29, ↓x_4_30, ↓x_4_32, ↓x_4_34, ↓x_4_37, ↓x_4_38, ↓x_4_39, ↓x_4_42, ↓x_4_43, ↓x_4_44, ↓x_4_47, ↓x_4_48, up1_same, up1_ne, up1_up1, us_0, us_1, us_2, us_3, us_4, us_5, us_6, us_7, us_8, us_9, us_10, us_11, rw_zero, rw_succ, Option.toList_some, Option.toList_none, List.cons_append, List.nil_append, cat_int, cat_ref, cat_null, iI_add, iI_sub, iI_mul, iI_neg, List.length_cons, List.length_nil, ↓reduceIte, va_rf_some, hw]
  refine ordI_loop (S1 := S + 60) (K0 := up1 (up1 (up1 (up1 K (w + 1) (8, 7)) (w + 1 + 1) (6, 6)) (w + 1 + 1 + 1) (6, 6)) (w + 1 + 1 + 1 + 1) (6, 6)) (V0 := up1 V w (orR w 0 0)) (P0 := up1 P (w + 1) (fun _ => none)) (up1_same _ _ _) (fun V' K' P' r1 r2 r3 r4 r5 r6 => ?_) 7 0 _ _ _ _ (by omega) (by omega) q4 ?_ (fun _ _ => rfl) (fun i hi => absurd hi (by omega)) (fun _ _ => rfl) (fun i hi => absurd hi (by omega)) (fun _ _ => rfl) (fun i hi => absurd hi (by omega))
  · refine hQ V' K' P' (fun a ha => ?_) ?_ ?_ ?_ ?_ r2 (fun a ha => ?_) ?_ r4 (fun a ha => ?_) r6
    · rw [r1 a (by omega), up1_ne (by omega), up1_ne (by omega), up1_ne (by omega), up1_ne (by omega)]
    · rw [r1 _ (by omega), up1_ne (by omega), up1_ne (by omega), up1_ne (by omega), up1_same]
    · rw [r1 _ (by omega), up1_ne (by omega), up1_ne (by omega)]; exact up1_same _ _ _
    · rw [r1 _ (by omega), up1_ne (by omega)]; exact up1_same _ _ _
    · rw [r1 _ (by omega)]; exact up1_same _ _ _
    · rw [r3 a (by omega), up1_ne (by omega)]
    · rw [r3 w (by omega), up1_same]
    · rw [r5 a ha, up1_ne ha]
  · rw [up1_ne (by omega), up1_ne (by omega), up1_ne (by omega), up1_same]
end
