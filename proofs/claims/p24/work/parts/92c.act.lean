/-! act: what it may do -/
def actR (S : aS) (y : Int32) (r : Int × aS) : Prop := (-1000 ≤ r.1 ∧ r.1 ≤ 1000) ∧ (r.1 < 0 → r.2.X = S.X ∧ r.2.U = S.U) ∧ (0 ≤ r.1 → r.2.U = pu S.U S.X) ∧ r.2.I = S.I ∧ (y &&& iI 7 = iI 7 → (r.1 < 0 → 0 < r.2.T.length) ∧ (0 ≤ r.1 → r.2.T.length = 0))
theorem act_bad {S : aS} {y : Int32} {z : Int} (h7 : ¬ y &&& iI 7 = iI 7) (hz : -1000 ≤ z ∧ z < 0) : actR S y (z, S) := ⟨⟨hz.1, by show z ≤ 1000; omega⟩, fun _ => ⟨rfl, rfl⟩, fun h => absurd h (by show ¬ 0 ≤ z; omega), rfl, fun h => absurd h h7⟩
theorem act_send {S : aS} {y : Int32} {k : Int} (hX : wf S.X) (h7 : ¬ y &&& iI 7 = iI 7) (h0 : 0 ≤ k) (h1 : k < 34) : actR S y (aSend S k) := by
  have hb := fD_b (sm S.X.1) h0 h1
  unfold aSend
  split
  · exact act_bad h7 (by omega)
  · exact ⟨⟨by show -1000 ≤ fD k (sm S.X.1); omega, by show fD k (sm S.X.1) ≤ 1000; omega⟩, fun h => absurd h (by show ¬ fD k (sm S.X.1) < 0; omega), fun _ => rfl, rfl, fun h => absurd h h7⟩
theorem act_sends {S : aS} {y : Int32} {k : Int} (hX : wf S.X) (h7 : ¬ y &&& iI 7 = iI 7) : actR S y (aSends S k) := by
  unfold aSends
  split
  · exact act_bad h7 (by omega)
  · exact act_send hX h7 (by omega) (by omega)
theorem act_marks {S : aS} {y : Int32} {k : Int} (hX : wf S.X) (h7 : ¬ y &&& iI 7 = iI 7) : actR S y (aMarks S k) := by
  unfold aMarks
  split
  · exact act_bad h7 (by omega)
  · exact act_send hX h7 (by omega) (by omega)
theorem act_flips {S : aS} {y : Int32} {b : Int} (h7 : ¬ y &&& iI 7 = iI 7) : actR S y (aFlips S b) := by
  have hb := btA_b (tX S.X b).2 b
  unfold aFlips
  split
  · exact ⟨⟨by show -1000 ≤ btA (tX S.X b).2 b; omega, by show btA (tX S.X b).2 b ≤ 1000; omega⟩, fun h => absurd h (by show ¬ btA (tX S.X b).2 b < 0; omega), fun _ => rfl, rfl, fun h => absurd h h7⟩
  · exact act_bad h7 (by omega)
theorem act_clears {S : aS} {y : Int32} (hX : wf S.X) (h7 : ¬ y &&& iI 7 = iI 7) : actR S y (aClears S) := by
  have h32 := hX.1
  unfold aClears
  split
  · exact act_bad h7 (by omega)
  · exact ⟨⟨by show -1000 ≤ (S.X.1.length : Int); omega, by show (S.X.1.length : Int) ≤ 1000; omega⟩, fun h => absurd h (by show ¬ (S.X.1.length : Int) < 0; omega), fun _ => rfl, rfl, fun h => absurd h h7⟩
theorem act_tells {S S3 : aS} {y : Int32} (h1 : S3.X = S.X) (h2 : S3.U = S.U) (h3 : S3.I = S.I) (h4 : 0 < S3.T.length) (h5 : S3.T.length ≤ 120) : actR S y (aTells S3) := by
  have hb : -1 ≤ (fpT S3.T).1 ∧ (fpT S3.T).1 ≤ S3.T.length := fpF_b S3.T S3.T.length 0 0 []
  unfold aTells
  split
  · exact ⟨⟨by show -1000 ≤ -10 - (fpT S3.T).1; omega, by show -10 - (fpT S3.T).1 ≤ 1000; omega⟩, fun _ => ⟨h1, h2⟩, fun h => absurd h (by show ¬ 0 ≤ -10 - (fpT S3.T).1; omega), h3, fun _ => ⟨fun _ => h4, fun h => absurd h (by show ¬ 0 ≤ -10 - (fpT S3.T).1; omega)⟩⟩
  · split
    · exact ⟨⟨by show (-1000 : Int) ≤ -3; omega, by show (-3 : Int) ≤ 1000; omega⟩, fun _ => ⟨h1, h2⟩, fun h => absurd h (by show ¬ (0 : Int) ≤ -3; omega), h3, fun _ => ⟨fun _ => h4, fun h => absurd h (by show ¬ (0 : Int) ≤ -3; omega)⟩⟩
    · refine ⟨⟨by show -1000 ≤ ((fpT S3.T).2.length : Int); omega, by show ((fpT S3.T).2.length : Int) ≤ 1000; omega⟩, fun h => absurd h (by show ¬ ((fpT S3.T).2.length : Int) < 0; omega), fun _ => ?_, h3, fun _ => ⟨fun h => absurd h (by show ¬ ((fpT S3.T).2.length : Int) < 0; omega), fun _ => rfl⟩⟩
      show pu S3.U S3.X = pu S.U S.X
      rw [h1, h2]
theorem aType_ok {S : aS} {c : Int} (h0 : 0 ≤ c ∧ c ≤ 255) (h1 : S.T.length < 120) : aType S c = ((S.T.length : Int) + 1, aS.mk S.X S.U S.I (S.T ++ [c])) := by
  unfold aType
  rw [if_neg (by omega), if_neg (by omega)]
section
variable {d : Nat} {t : mL} {V : Nat → Nat → Value} {A : Nat → Nat → Int32} {P : Nat → Nat → Option Nat} {μ : mM} {Q : Option Value → mM → Prop} {S : aS} {xs : Nat → Int32}
theorem act_t0 {S1 : aS} (hK : exK t) (y : Int32) (hJ : lwJ xs t V A P S1) (h1 : S1.X = S.X) (h2 : S1.U = S.U) (h3 : S1.I = S.I) (h4 : 0 < S1.T.length) (h5 : S1.T.length ≤ 100) (hQ : ∀ r, actR S y r → hqJ xs t Q r) : Ev (d + 21) 82 154 [.ref 3, .int y] [] (t, V, A, P) Q := by
  have k0 := hK.1
  simp (disch := first | assumption | omega | exact isB_z | exact isB_o | exact iI_in' (by assumption) (by omega) (by omega) | exact cat_int _ | exact cat_ref _ | exact cat_null | decide) only [↓x_82_154, ↓x_82_155]
  refine kJ_tells hK hJ (fun V A P hJ => ?_)
  simp (disch := first | assumption | omega | exact isB_z | exact isB_o | exact iI_in' (by assumption) (by omega) (by omega) | exact cat_int _ | exact cat_ref _ | exact cat_null | decide) only [↓x_82_158, up1_same, up1_ne, up1_up1, us_0, us_1, us_2, us_3, us_4, us_5, us_6, us_7, us_8, us_9, us_10, us_11, rw_zero, rw_succ, Option.toList_some, Option.toList_none, List.cons_append, List.nil_append, cat_int, cat_ref, cat_null, iI_add, iI_sub, iI_mul, iI_neg, List.length_cons, List.length_nil, ↓reduceIte, va_rf_some]
  exact hQ _ (act_tells h1 h2 h3 h4 (by omega)) V A P hJ
theorem k_act (hK : exK t) (y : Int32) (hJ : lwJ xs t V A P S) (hS : S.T = []) (hQ : ∀ r, actR S y r → hqJ xs t Q r) : Call (d + 22) 82 [.ref 3, .int y] (t, V, A, P) Q := by
  have k0 := hK.1
  have hX := hJ.wo.1
  have n7 : ∀ c : Int, 0 ≤ c → c < 7 → y &&& iI 7 = iI c → ¬ y &&& iI 7 = iI 7 := fun c c0 c1 h h2 => by
    rw [h, iI_eq (by omega) (by omega) (by omega) (by omega)] at h2
    omega
  simp (disch := first | assumption | omega | exact isB_z | exact isB_o | exact iI_in' (by assumption) (by omega) (by omega) | exact cat_int _ | exact cat_ref _ | exact cat_null | decide) only [c_82, ↓x_82_0, ↓x_82_1, ↓x_82_3]
  rw [x_82_4]
  by_cases c0 : y &&& iI 7 = iI 0
  · rw [if_pos c0]
    simp (disch := first | assumption | omega | exact isB_z | exact isB_o | exact iI_in' (by assumption) (by omega) (by omega) | exact cat_int _ | exact cat_ref _ | exact cat_null | decide) only [↓x_82_48, ↓x_82_49, ↓x_82_50, ↓x_82_51, ↓x_82_52, ↓x_82_54]
    refine k_low (by omega) (by omega) (fun z z0 z1 => ?_)
    simp (disch := first | assumption | omega | exact isB_z | exact isB_o | exact iI_in' (by assumption) (by omega) (by omega) | exact cat_int _ | exact cat_ref _ | exact cat_null | decide) only [↓x_82_57, up1_same, up1_ne, up1_up1, us_0, us_1, us_2, us_3, us_4, us_5, us_6, us_7, us_8, us_9, us_10, us_11, rw_zero, rw_succ, Option.toList_some, Option.toList_none, List.cons_append, List.nil_append, cat_int, cat_ref, cat_null, iI_add, iI_sub, iI_mul, iI_neg, List.length_cons, List.length_nil, ↓reduceIte, va_rf_some]
    refine kJ_sends hK hJ (by omega) (fun V A P hJ => ?_)
    simp (disch := first | assumption | omega | exact isB_z | exact isB_o | exact iI_in' (by assumption) (by omega) (by omega) | exact cat_int _ | exact cat_ref _ | exact cat_null | decide) only [↓x_82_60, up1_same, up1_ne, up1_up1, us_0, us_1, us_2, us_3, us_4, us_5, us_6, us_7, us_8, us_9, us_10, us_11, rw_zero, rw_succ, Option.toList_some, Option.toList_none, List.cons_append, List.nil_append, cat_int, cat_ref, cat_null, iI_add, iI_sub, iI_mul, iI_neg, List.length_cons, List.length_nil, ↓reduceIte, va_rf_some]
    exact hQ _ (act_sends hX (n7 0 (by omega) (by omega) c0)) V A P hJ
  rw [if_neg c0]
  by_cases c1 : y &&& iI 7 = iI 1
  · rw [if_pos c1]
    simp (disch := first | assumption | omega | exact isB_z | exact isB_o | exact iI_in' (by assumption) (by omega) (by omega) | exact cat_int _ | exact cat_ref _ | exact cat_null | decide) only [↓x_82_48, ↓x_82_49, ↓x_82_50, ↓x_82_51, ↓x_82_52, ↓x_82_54]
    refine k_low (by omega) (by omega) (fun z z0 z1 => ?_)
    simp (disch := first | assumption | omega | exact isB_z | exact isB_o | exact iI_in' (by assumption) (by omega) (by omega) | exact cat_int _ | exact cat_ref _ | exact cat_null | decide) only [↓x_82_57, up1_same, up1_ne, up1_up1, us_0, us_1, us_2, us_3, us_4, us_5, us_6, us_7, us_8, us_9, us_10, us_11, rw_zero, rw_succ, Option.toList_some, Option.toList_none, List.cons_append, List.nil_append, cat_int, cat_ref, cat_null, iI_add, iI_sub, iI_mul, iI_neg, List.length_cons, List.length_nil, ↓reduceIte, va_rf_some]
    refine kJ_sends hK hJ (by omega) (fun V A P hJ => ?_)
    simp (disch := first | assumption | omega | exact isB_z | exact isB_o | exact iI_in' (by assumption) (by omega) (by omega) | exact cat_int _ | exact cat_ref _ | exact cat_null | decide) only [↓x_82_60, up1_same, up1_ne, up1_up1, us_0, us_1, us_2, us_3, us_4, us_5, us_6, us_7, us_8, us_9, us_10, us_11, rw_zero, rw_succ, Option.toList_some, Option.toList_none, List.cons_append, List.nil_append, cat_int, cat_ref, cat_null, iI_add, iI_sub, iI_mul, iI_neg, List.length_cons, List.length_nil, ↓reduceIte, va_rf_some]
    exact hQ _ (act_sends hX (n7 1 (by omega) (by omega) c1)) V A P hJ
  rw [if_neg c1]
  by_cases c2 : y &&& iI 7 = iI 2
  · rw [if_pos c2]
    simp (disch := first | assumption | omega | exact isB_z | exact isB_o | exact iI_in' (by assumption) (by omega) (by omega) | exact cat_int _ | exact cat_ref _ | exact cat_null | decide) only [↓x_82_48, ↓x_82_49, ↓x_82_50, ↓x_82_51, ↓x_82_52, ↓x_82_54]
    refine k_low (by omega) (by omega) (fun z z0 z1 => ?_)
    simp (disch := first | assumption | omega | exact isB_z | exact isB_o | exact iI_in' (by assumption) (by omega) (by omega) | exact cat_int _ | exact cat_ref _ | exact cat_null | decide) only [↓x_82_57, up1_same, up1_ne, up1_up1, us_0, us_1, us_2, us_3, us_4, us_5, us_6, us_7, us_8, us_9, us_10, us_11, rw_zero, rw_succ, Option.toList_some, Option.toList_none, List.cons_append, List.nil_append, cat_int, cat_ref, cat_null, iI_add, iI_sub, iI_mul, iI_neg, List.length_cons, List.length_nil, ↓reduceIte, va_rf_some]
    refine kJ_sends hK hJ (by omega) (fun V A P hJ => ?_)
    simp (disch := first | assumption | omega | exact isB_z | exact isB_o | exact iI_in' (by assumption) (by omega) (by omega) | exact cat_int _ | exact cat_ref _ | exact cat_null | decide) only [↓x_82_60, up1_same, up1_ne, up1_up1, us_0, us_1, us_2, us_3, us_4, us_5, us_6, us_7, us_8, us_9, us_10, us_11, rw_zero, rw_succ, Option.toList_some, Option.toList_none, List.cons_append, List.nil_append, cat_int, cat_ref, cat_null, iI_add, iI_sub, iI_mul, iI_neg, List.length_cons, List.length_nil, ↓reduceIte, va_rf_some]
    exact hQ _ (act_sends hX (n7 2 (by omega) (by omega) c2)) V A P hJ
  rw [if_neg c2]
  by_cases c3 : y &&& iI 7 = iI 3
  · rw [if_pos c3]
    simp (disch := first | assumption | omega | exact isB_z | exact isB_o | exact iI_in' (by assumption) (by omega) (by omega) | exact cat_int _ | exact cat_ref _ | exact cat_null | decide) only [↓x_82_61, ↓x_82_62, ↓x_82_63, ↓x_82_64, ↓x_82_65, ↓x_82_66]
    refine k_low (by omega) (by omega) (fun z z0 z1 => ?_)
    simp (disch := first | assumption | omega | exact isB_z | exact isB_o | exact iI_in' (by assumption) (by omega) (by omega) | exact cat_int _ | exact cat_ref _ | exact cat_null | decide) only [↓x_82_69, up1_same, up1_ne, up1_up1, us_0, us_1, us_2, us_3, us_4, us_5, us_6, us_7, us_8, us_9, us_10, us_11, rw_zero, rw_succ, Option.toList_some, Option.toList_none, List.cons_append, List.nil_append, cat_int, cat_ref, cat_null, iI_add, iI_sub, iI_mul, iI_neg, List.length_cons, List.length_nil, ↓reduceIte, va_rf_some]
    refine kJ_marks hK hJ (by omega) (fun V A P hJ => ?_)
    simp (disch := first | assumption | omega | exact isB_z | exact isB_o | exact iI_in' (by assumption) (by omega) (by omega) | exact cat_int _ | exact cat_ref _ | exact cat_null | decide) only [↓x_82_72, up1_same, up1_ne, up1_up1, us_0, us_1, us_2, us_3, us_4, us_5, us_6, us_7, us_8, us_9, us_10, us_11, rw_zero, rw_succ, Option.toList_some, Option.toList_none, List.cons_append, List.nil_append, cat_int, cat_ref, cat_null, iI_add, iI_sub, iI_mul, iI_neg, List.length_cons, List.length_nil, ↓reduceIte, va_rf_some]
    exact hQ _ (act_marks hX (n7 3 (by omega) (by omega) c3)) V A P hJ
  rw [if_neg c3]
  by_cases c4 : y &&& iI 7 = iI 4
  · rw [if_pos c4]
    simp (disch := first | assumption | omega | exact isB_z | exact isB_o | exact iI_in' (by assumption) (by omega) (by omega) | exact cat_int _ | exact cat_ref _ | exact cat_null | decide) only [↓x_82_61, ↓x_82_62, ↓x_82_63, ↓x_82_64, ↓x_82_65, ↓x_82_66]
    refine k_low (by omega) (by omega) (fun z z0 z1 => ?_)
    simp (disch := first | assumption | omega | exact isB_z | exact isB_o | exact iI_in' (by assumption) (by omega) (by omega) | exact cat_int _ | exact cat_ref _ | exact cat_null | decide) only [↓x_82_69, up1_same, up1_ne, up1_up1, us_0, us_1, us_2, us_3, us_4, us_5, us_6, us_7, us_8, us_9, us_10, us_11, rw_zero, rw_succ, Option.toList_some, Option.toList_none, List.cons_append, List.nil_append, cat_int, cat_ref, cat_null, iI_add, iI_sub, iI_mul, iI_neg, List.length_cons, List.length_nil, ↓reduceIte, va_rf_some]
    refine kJ_marks hK hJ (by omega) (fun V A P hJ => ?_)
    simp (disch := first | assumption | omega | exact isB_z | exact isB_o | exact iI_in' (by assumption) (by omega) (by omega) | exact cat_int _ | exact cat_ref _ | exact cat_null | decide) only [↓x_82_72, up1_same, up1_ne, up1_up1, us_0, us_1, us_2, us_3, us_4, us_5, us_6, us_7, us_8, us_9, us_10, us_11, rw_zero, rw_succ, Option.toList_some, Option.toList_none, List.cons_append, List.nil_append, cat_int, cat_ref, cat_null, iI_add, iI_sub, iI_mul, iI_neg, List.length_cons, List.length_nil, ↓reduceIte, va_rf_some]
    exact hQ _ (act_marks hX (n7 4 (by omega) (by omega) c4)) V A P hJ
  rw [if_neg c4]
  by_cases c5 : y &&& iI 7 = iI 5
  · rw [if_pos c5]
    simp (disch := first | assumption | omega | exact isB_z | exact isB_o | exact iI_in' (by assumption) (by omega) (by omega) | exact cat_int _ | exact cat_ref _ | exact cat_null | decide) only [↓x_82_73, ↓x_82_74, ↓x_82_75, ↓x_82_76, ↓x_82_77, ↓x_82_79]
    refine k_low (by omega) (by omega) (fun z z0 z1 => ?_)
    simp (disch := first | assumption | omega | exact isB_z | exact isB_o | exact iI_in' (by assumption) (by omega) (by omega) | exact cat_int _ | exact cat_ref _ | exact cat_null | decide) only [↓x_82_82, up1_same, up1_ne, up1_up1, us_0, us_1, us_2, us_3, us_4, us_5, us_6, us_7, us_8, us_9, us_10, us_11, rw_zero, rw_succ, Option.toList_some, Option.toList_none, List.cons_append, List.nil_append, cat_int, cat_ref, cat_null, iI_add, iI_sub, iI_mul, iI_neg, List.length_cons, List.length_nil, ↓reduceIte, va_rf_some]
    refine kJ_flips hK hJ (by omega) (fun V A P hJ => ?_)
    simp (disch := first | assumption | omega | exact isB_z | exact isB_o | exact iI_in' (by assumption) (by omega) (by omega) | exact cat_int _ | exact cat_ref _ | exact cat_null | decide) only [↓x_82_85, up1_same, up1_ne, up1_up1, us_0, us_1, us_2, us_3, us_4, us_5, us_6, us_7, us_8, us_9, us_10, us_11, rw_zero, rw_succ, Option.toList_some, Option.toList_none, List.cons_append, List.nil_append, cat_int, cat_ref, cat_null, iI_add, iI_sub, iI_mul, iI_neg, List.length_cons, List.length_nil, ↓reduceIte, va_rf_some]
    exact hQ _ (act_flips (n7 5 (by omega) (by omega) c5)) V A P hJ
  rw [if_neg c5]
  by_cases c6 : y &&& iI 7 = iI 6
  · rw [if_pos c6]
    have c7 := n7 6 (by omega) (by omega) c6
    simp (disch := first | assumption | omega | exact isB_z | exact isB_o | exact iI_in' (by assumption) (by omega) (by omega) | exact cat_int _ | exact cat_ref _ | exact cat_null | decide) only [↓x_82_86, ↓x_82_87, ↓x_82_88, ↓x_82_89, ↓x_82_91]
    rw [x_82_92]
    split
    · simp (disch := first | assumption | omega | exact isB_z | exact isB_o | exact iI_in' (by assumption) (by omega) (by omega) | exact cat_int _ | exact cat_ref _ | exact cat_null | decide) only [↓x_82_95, ↓x_82_96]
      refine kJ_clears hK hJ (fun V A P hJ => ?_)
      simp (disch := first | assumption | omega | exact isB_z | exact isB_o | exact iI_in' (by assumption) (by omega) (by omega) | exact cat_int _ | exact cat_ref _ | exact cat_null | decide) only [↓x_82_99, ↓x_82_114, up1_same, up1_ne, up1_up1, us_0, us_1, us_2, us_3, us_4, us_5, us_6, us_7, us_8, us_9, us_10, us_11, rw_zero, rw_succ, Option.toList_some, Option.toList_none, List.cons_append, List.nil_append, cat_int, cat_ref, cat_null, iI_add, iI_sub, iI_mul, iI_neg, List.length_cons, List.length_nil, ↓reduceIte, va_rf_some]
      exact hQ _ (act_clears hX c7) V A P hJ
    · simp (disch := first | assumption | omega | exact isB_z | exact isB_o | exact iI_in' (by assumption) (by omega) (by omega) | exact cat_int _ | exact cat_ref _ | exact cat_null | decide) only [↓x_82_102, ↓x_82_103, ↓x_82_104, ↓x_82_106, ↓x_82_107, ↓x_82_108]
      refine k_low (by omega) (by omega) (fun z z0 z1 => ?_)
      simp (disch := first | assumption | omega | exact isB_z | exact isB_o | exact iI_in' (by assumption) (by omega) (by omega) | exact cat_int _ | exact cat_ref _ | exact cat_null | decide) only [↓x_82_111, up1_same, up1_ne, up1_up1, us_0, us_1, us_2, us_3, us_4, us_5, us_6, us_7, us_8, us_9, us_10, us_11, rw_zero, rw_succ, Option.toList_some, Option.toList_none, List.cons_append, List.nil_append, cat_int, cat_ref, cat_null, iI_add, iI_sub, iI_mul, iI_neg, List.length_cons, List.length_nil, ↓reduceIte, va_rf_some]
      refine kJ_marks hK hJ (by omega) (fun V A P hJ => ?_)
      simp (disch := first | assumption | omega | exact isB_z | exact isB_o | exact iI_in' (by assumption) (by omega) (by omega) | exact cat_int _ | exact cat_ref _ | exact cat_null | decide) only [↓x_82_114, up1_same, up1_ne, up1_up1, us_0, us_1, us_2, us_3, us_4, us_5, us_6, us_7, us_8, us_9, us_10, us_11, rw_zero, rw_succ, Option.toList_some, Option.toList_none, List.cons_append, List.nil_append, cat_int, cat_ref, cat_null, iI_add, iI_sub, iI_mul, iI_neg, List.length_cons, List.length_nil, ↓reduceIte, va_rf_some]
      exact hQ _ (act_marks hX c7) V A P hJ
  rw [if_neg c6]
  simp (disch := first | assumption | omega | exact isB_z | exact isB_o | exact iI_in' (by assumption) (by omega) (by omega) | exact cat_int _ | exact cat_ref _ | exact cat_null | decide) only [↓x_82_115, ↓x_82_116, ↓x_82_118]
  refine kJ_type hK hJ (by omega) (fun V A P hJ => ?_)
  rw [aType_ok (by omega) (by rw [hS]; decide)] at hJ ⊢
  simp (disch := first | assumption | omega | exact isB_z | exact isB_o | exact iI_in' (by assumption) (by omega) (by omega) | exact cat_int _ | exact cat_ref _ | exact cat_null | decide) only [↓x_82_121, ↓x_82_122, ↓x_82_123, ↓x_82_125, ↓x_82_126, ↓x_82_127, ↓x_82_128, ↓x_82_130, up1_same, up1_ne, up1_up1, us_0, us_1, us_2, us_3, us_4, us_5, us_6, us_7, us_8, us_9, us_10, us_11, rw_zero, rw_succ, Option.toList_some, Option.toList_none, List.cons_append, List.nil_append, cat_int, cat_ref, cat_null, iI_add, iI_sub, iI_mul, iI_neg, List.length_cons, List.length_nil, ↓reduceIte, va_rf_some]
  refine k_low (by omega) (by omega) (fun z z0 z1 => ?_)
  simp (disch := first | assumption | omega | exact isB_z | exact isB_o | exact iI_in' (by assumption) (by omega) (by omega) | exact cat_int _ | exact cat_ref _ | exact cat_null | decide) only [↓x_82_133, ↓x_82_134, up1_same, up1_ne, up1_up1, us_0, us_1, us_2, us_3, us_4, us_5, us_6, us_7, us_8, us_9, us_10, us_11, rw_zero, rw_succ, Option.toList_some, Option.toList_none, List.cons_append, List.nil_append, cat_int, cat_ref, cat_null, iI_add, iI_sub, iI_mul, iI_neg, List.length_cons, List.length_nil, ↓reduceIte, va_rf_some]
  refine kJ_type hK hJ (by omega) (fun V A P hJ => ?_)
  rw [aType_ok (by omega) (by show (S.T ++ [100]).length < 120; rw [hS]; decide)] at hJ ⊢
  simp (disch := first | assumption | omega | exact isB_z | exact isB_o | exact iI_in' (by assumption) (by omega) (by omega) | exact cat_int _ | exact cat_ref _ | exact cat_null | decide) only [↓x_82_137, ↓x_82_138, ↓x_82_139, ↓x_82_141, ↓x_82_142, ↓x_82_143, up1_same, up1_ne, up1_up1, us_0, us_1, us_2, us_3, us_4, us_5, us_6, us_7, us_8, us_9, us_10, us_11, rw_zero, rw_succ, Option.toList_some, Option.toList_none, List.cons_append, List.nil_append, cat_int, cat_ref, cat_null, iI_add, iI_sub, iI_mul, iI_neg, List.length_cons, List.length_nil, ↓reduceIte, va_rf_some]
  rw [x_82_144]
  split
  · simp (disch := first | assumption | omega | exact isB_z | exact isB_o | exact iI_in' (by assumption) (by omega) (by omega) | exact cat_int _ | exact cat_ref _ | exact cat_null | decide) only [↓x_82_147, ↓x_82_148, ↓x_82_150]
    refine kJ_type hK hJ (by omega) (fun V A P hJ => ?_)
    rw [aType_ok (by omega) (by show (S.T ++ [100] ++ [48 + z]).length < 120; rw [hS]; simp)] at hJ ⊢
    simp (disch := first | assumption | omega | exact isB_z | exact isB_o | exact iI_in' (by assumption) (by omega) (by omega) | exact cat_int _ | exact cat_ref _ | exact cat_null | decide) only [↓x_82_153, up1_same, up1_ne, up1_up1, us_0, us_1, us_2, us_3, us_4, us_5, us_6, us_7, us_8, us_9, us_10, us_11, rw_zero, rw_succ, Option.toList_some, Option.toList_none, List.cons_append, List.nil_append, cat_int, cat_ref, cat_null, iI_add, iI_sub, iI_mul, iI_neg, List.length_cons, List.length_nil, ↓reduceIte, va_rf_some]
    refine act_t0 hK y hJ rfl rfl rfl ?_ ?_ hQ
    · show 0 < (S.T ++ [100] ++ [48 + z] ++ [59]).length; rw [hS]; simp
    · show (S.T ++ [100] ++ [48 + z] ++ [59]).length ≤ 100; rw [hS]; simp
  · refine act_t0 hK y hJ rfl rfl rfl ?_ ?_ hQ
    · show 0 < (S.T ++ [100] ++ [48 + z]).length; rw [hS]; simp
    · show (S.T ++ [100] ++ [48 + z]).length ≤ 100; rw [hS]; simp
end
