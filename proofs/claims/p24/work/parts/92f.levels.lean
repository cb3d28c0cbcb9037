/-! levels: the climb, and weights -/
section
variable {d : Nat} {t : mL} {V : Nat → Nat → Value} {A : Nat → Nat → Int32} {P : Nat → Nat → Option Nat} {μ : mM} {Q : Option Value → mM → Prop} {S : aS} {xs : Nat → Int32}
theorem aLevel_v {X : aW} {x w : Int} (h : -300 ≤ x ∧ x ≤ 300) (hw : 0 ≤ w ∧ w ≤ 2) : aLevel X x w = if w = 0 then (lvF X x (X.1.length * 6)).1 else if w = 1 then (lvF X x (X.1.length * 6)).2.1 else (lvF X x (X.1.length * 6)).2.2 := by
  unfold aLevel
  rw [if_pos (by omega)]
theorem lev_loop (hK : exK t) (hX : wf S.X) (hQ : ∀ (s : Int) (a4 : Value) (V : Nat → Nat → Value) (A : Nat → Nat → Int32) (P : Nat → Nat → Option Nat), lwJ xs t V A P S → a4.category = 1 → Ev (d + 21) 81 87 [.ref 3, .int (iI (S.X.1.length * 6 : Nat)), .int (iI (-2000000)), .int (iI s), a4] [] (t, V, A, P) Q) : ∀ (k : Nat) (x s al : Int) (a4 : Value) (V : Nat → Nat → Value) (A : Nat → Nat → Int32) (P : Nat → Nat → Option Nat), 194 ≤ x + k → lvA S.X x → (0 ≤ s ∧ ((x = -300 ∧ s = 0) ∨ s ≤ x + 194)) → al + (lvF S.X x (S.X.1.length * 6)).1 = clF S.X x (S.X.1.length * 6) → lwJ xs t V A P S → a4.category = 1 → Ev (d + 21) 81 8 [.ref 3, .int (iI al), .int (iI x), .int (iI s), a4] [] (t, V, A, P) Q := by
  have k0 := hK.1
  have h32 := hX.1
  intro k
  induction k with
  | zero =>
    intro x s al a4 V A P hk hx
    have := (lv_step hX hx).1
    omega
  | succ k ih =>
    intro x s al a4 V A P hk hx hs hal hJ ha
    obtain ⟨hx0, hst⟩ := lv_step hX hx
    have hb := lvF_b S.X x (S.X.1.length * 6) (by omega)
    have hcl := clF_pos S.X x (S.X.1.length * 6)
    have l0 : aLevel S.X x 0 = (lvF S.X x (S.X.1.length * 6)).1 := by rw [aLevel_v (by omega) (by omega), if_pos rfl]
    have l1 : aLevel S.X x 1 = (lvF S.X x (S.X.1.length * 6)).2.1 := by rw [aLevel_v (by omega) (by omega), if_neg (by omega), if_pos rfl]
    have c1 : ¬ x = -2000000 := by omega
    have c2 : s < 400 := by omega
    rw [x_81_8]
    simp (disch := first | assumption | omega | exact isB_z | exact isB_o | exact iI_in' (by assumption) (by omega) (by omega) | exact cat_int _ | exact cat_ref _ | exact cat_null | decide) only [↓x_81_9, ↓x_81_11, ↓x_81_14, ↓x_81_15, ↓x_81_18, ↓x_81_21, ↓x_81_22, ↓x_81_23, ↓x_81_24, ↓x_81_25, up1_same, up1_ne, up1_up1, us_0, us_1, us_2, us_3, us_4, us_5, us_6, us_7, us_8, us_9, us_10, us_11, rw_zero, rw_succ, Option.toList_some, Option.toList_none, List.cons_append, List.nil_append, cat_int, cat_ref, cat_null, iI_add, iI_sub, iI_mul, iI_neg, List.length_cons, List.length_nil, ↓reduceIte, va_rf_some, iI_eq, iI_lt, c1, c2]
    refine kJ_level hK hJ (by omega) (by omega) (fun V A P hJ => ?_)
    simp (disch := first | assumption | omega | exact isB_z | exact isB_o | exact iI_in' (by assumption) (by omega) (by omega) | exact cat_int _ | exact cat_ref _ | exact cat_null | decide) only [↓x_81_28, ↓x_81_29, ↓x_81_30, ↓x_81_31, ↓x_81_32, ↓x_81_33, up1_same, up1_ne, up1_up1, us_0, us_1, us_2, us_3, us_4, us_5, us_6, us_7, us_8, us_9, us_10, us_11, rw_zero, rw_succ, Option.toList_some, Option.toList_none, List.cons_append, List.nil_append, cat_int, cat_ref, cat_null, iI_add, iI_sub, iI_mul, iI_neg, List.length_cons, List.length_nil, ↓reduceIte, va_rf_some, l0, hal]
    refine kJ_level hK hJ (by omega) (by omega) (fun V A P hJ => ?_)
    rcases hst with ⟨n1, n2⟩ | ⟨n1, n2, n3, n4, n5, n6, n7⟩
    · simp (disch := first | assumption | omega | exact isB_z | exact isB_o | exact iI_in' (by assumption) (by omega) (by omega) | exact cat_int _ | exact cat_ref _ | exact cat_null | decide) only [↓x_81_36, ↓x_81_38, ↓x_81_40, ↓x_81_42, ↓x_81_78, ↓x_81_80, ↓x_81_81, ↓x_81_84, up1_same, up1_ne, up1_up1, us_0, us_1, us_2, us_3, us_4, us_5, us_6, us_7, us_8, us_9, us_10, us_11, rw_zero, rw_succ, Option.toList_some, Option.toList_none, List.cons_append, List.nil_append, cat_int, cat_ref, cat_null, iI_add, iI_sub, iI_mul, iI_neg, List.length_cons, List.length_nil, ↓reduceIte, va_rf_some, l1, n1, n2]
      rw [x_81_8]
      simp (disch := first | assumption | omega | exact isB_z | exact isB_o | exact iI_in' (by assumption) (by omega) (by omega) | exact cat_int _ | exact cat_ref _ | exact cat_null | decide) only [↓x_81_9, ↓x_81_11, up1_same, up1_ne, up1_up1, us_0, us_1, us_2, us_3, us_4, us_5, us_6, us_7, us_8, us_9, us_10, us_11, rw_zero, rw_succ, Option.toList_some, Option.toList_none, List.cons_append, List.nil_append, cat_int, cat_ref, cat_null, iI_add, iI_sub, iI_mul, iI_neg, List.length_cons, List.length_nil, ↓reduceIte, va_rf_some]
      exact hQ _ _ V A P hJ rfl
    · generalize (lvF S.X x (S.X.1.length * 6)).2.1 = y at *
      have hby := lvF_b S.X y (S.X.1.length * 6) (by omega)
      have m0 : aLevel S.X y 0 = (lvF S.X y (S.X.1.length * 6)).1 := by rw [aLevel_v (by omega) (by omega), if_pos rfl]
      have m2 : aLevel S.X y 2 = (lvF S.X y (S.X.1.length * 6)).2.2 := by rw [aLevel_v (by omega) (by omega), if_neg (by omega), if_neg (by omega)]
      have c3 : ¬ y = -2000000 := by omega
      simp (disch := first | assumption | omega | exact isB_z | exact isB_o | exact iI_in' (by assumption) (by omega) (by omega) | exact cat_int _ | exact cat_ref _ | exact cat_null | decide) only [↓x_81_36, ↓x_81_38, ↓x_81_40, ↓x_81_42, ↓x_81_45, ↓x_81_47, ↓x_81_48, ↓x_81_51, ↓x_81_52, ↓x_81_54, ↓x_81_55, up1_same, up1_ne, up1_up1, us_0, us_1, us_2, us_3, us_4, us_5, us_6, us_7, us_8, us_9, us_10, us_11, rw_zero, rw_succ, Option.toList_some, Option.toList_none, List.cons_append, List.nil_append, cat_int, cat_ref, cat_null, iI_add, iI_sub, iI_mul, iI_neg, List.length_cons, List.length_nil, ↓reduceIte, va_rf_some, iI_eq, iI_lt, l1, c3, n1]
      refine kJ_level hK hJ (by omega) (by omega) (fun V A P hJ => ?_)
      have go : ∀ (V : Nat → Nat → Value) (A : Nat → Nat → Int32) (P : Nat → Nat → Option Nat), lwJ xs t V A P S → Ev (d + 21) 81 78 [.ref 3, .int (iI (clF S.X x (S.X.1.length * 6))), .int (iI x), .int (iI s), .int (iI y)] [] (t, V, A, P) Q := fun V A P hJ => by
        simp (disch := first | assumption | omega | exact isB_z | exact isB_o | exact iI_in' (by assumption) (by omega) (by omega) | exact cat_int _ | exact cat_ref _ | exact cat_null | decide) only [↓x_81_78, ↓x_81_80, ↓x_81_81, ↓x_81_84, up1_same, up1_ne, up1_up1, us_0, us_1, us_2, us_3, us_4, us_5, us_6, us_7, us_8, us_9, us_10, us_11, rw_zero, rw_succ, Option.toList_some, Option.toList_none, List.cons_append, List.nil_append, cat_int, cat_ref, cat_null, iI_add, iI_sub, iI_mul, iI_neg, List.length_cons, List.length_nil, ↓reduceIte, va_rf_some]
        exact ih y (s + 1) (clF S.X x (S.X.1.length * 6)) _ V A P (by omega) n2 (by omega) n7 hJ rfl
      by_cases c4 : 0 < clF S.X x (S.X.1.length * 6)
      · simp (disch := first | assumption | omega | exact isB_z | exact isB_o | exact iI_in' (by assumption) (by omega) (by omega) | exact cat_int _ | exact cat_ref _ | exact cat_null | decide) only [↓x_81_58, ↓x_81_61, ↓x_81_62, ↓x_81_65, ↓x_81_66, ↓x_81_68, ↓x_81_69, up1_same, up1_ne, up1_up1, us_0, us_1, us_2, us_3, us_4, us_5, us_6, us_7, us_8, us_9, us_10, us_11, rw_zero, rw_succ, Option.toList_some, Option.toList_none, List.cons_append, List.nil_append, cat_int, cat_ref, cat_null, iI_add, iI_sub, iI_mul, iI_neg, List.length_cons, List.length_nil, ↓reduceIte, va_rf_some, iI_eq, iI_lt, m0, n5, c4]
        refine kJ_level hK hJ (by omega) (by omega) (fun V A P hJ => ?_)
        simp (disch := first | assumption | omega | exact isB_z | exact isB_o | exact iI_in' (by assumption) (by omega) (by omega) | exact cat_int _ | exact cat_ref _ | exact cat_null | decide) only [↓x_81_72, ↓x_81_73, up1_same, up1_ne, up1_up1, us_0, us_1, us_2, us_3, us_4, us_5, us_6, us_7, us_8, us_9, us_10, us_11, rw_zero, rw_succ, Option.toList_some, Option.toList_none, List.cons_append, List.nil_append, cat_int, cat_ref, cat_null, iI_add, iI_sub, iI_mul, iI_neg, List.length_cons, List.length_nil, ↓reduceIte, va_rf_some, m2, n6 c4]
        exact go V A P hJ
      · simp (disch := first | assumption | omega | exact isB_z | exact isB_o | exact iI_in' (by assumption) (by omega) (by omega) | exact cat_int _ | exact cat_ref _ | exact cat_null | decide) only [↓x_81_58, ↓x_81_61, ↓x_81_62, up1_same, up1_ne, up1_up1, us_0, us_1, us_2, us_3, us_4, us_5, us_6, us_7, us_8, us_9, us_10, us_11, rw_zero, rw_succ, Option.toList_some, Option.toList_none, List.cons_append, List.nil_append, cat_int, cat_ref, cat_null, iI_add, iI_sub, iI_mul, iI_neg, List.length_cons, List.length_nil, ↓reduceIte, va_rf_some, iI_eq, iI_lt, m0, n5, c4]
        exact go V A P hJ
theorem k_levels (hK : exK t) (hJ : lwJ xs t V A P S) (hQ : hqJ xs t Q (1, S)) : Call (d + 22) 81 [.ref 3] (t, V, A, P) Q := by
  have k0 := hK.1
  have hX := hJ.wo.1
  have h32 := hX.1
  have hw := wtF_b S.X (S.X.1.length * 6) (by omega)
  have hbot : lvA S.X (-300) := Or.inl rfl
  have hz : (0 : Int) + (lvF S.X (-300) (S.X.1.length * 6)).1 = clF S.X (-300) (S.X.1.length * 6) := by
    have h1 := clF_next S.X (x := -301) (y := -300) (by omega) (S.X.1.length * 6) (fun c hc => Or.inr (by have := hT_b hX hc; omega))
    rw [clF_0 S.X (-301) (S.X.1.length * 6) (fun c hc => by have := hT_b hX hc; omega)] at h1
    exact h1
  simp (disch := first | assumption | omega | exact isB_z | exact isB_o | exact iI_in' (by assumption) (by omega) (by omega) | exact cat_int _ | exact cat_ref _ | exact cat_null | decide) only [c_81, ↓x_81_0, ↓x_81_1, ↓x_81_2, ↓x_81_5, ↓x_81_6, ↓x_81_7]
  refine lev_loop (S := S) (d := d) hK hX (fun s a4 V A P hJ ha => ?_) 494 (-300) 0 0 _ V A P (by omega) hbot ⟨by omega, Or.inl ⟨rfl, rfl⟩⟩ hz hJ rfl
  have e1 : 6 * (S.X.1.length : Int) = ((S.X.1.length * 6 : Nat) : Int) := by omega
  simp (disch := first | assumption | omega | exact isB_z | exact isB_o | exact iI_in' (by assumption) (by omega) (by omega) | exact cat_int _ | exact cat_ref _ | exact cat_null | decide) only [↓x_81_87, ↓x_81_88, ↓x_81_89, up1_same, up1_ne, up1_up1, us_0, us_1, us_2, us_3, us_4, us_5, us_6, us_7, us_8, us_9, us_10, us_11, rw_zero, rw_succ, Option.toList_some, Option.toList_none, List.cons_append, List.nil_append, cat_int, cat_ref, cat_null, iI_add, iI_sub, iI_mul, iI_neg, List.length_cons, List.length_nil, ↓reduceIte, va_rf_some]
  refine kJ_weight hK hJ (by omega) (fun V A P hJ => ?_)
  simp (disch := first | assumption | omega | exact isB_z | exact isB_o | exact iI_in' (by assumption) (by omega) (by omega) | exact cat_int _ | exact cat_ref _ | exact cat_null | decide) only [↓x_81_92, ↓x_81_94, ↓x_81_95, ↓x_81_97, ↓x_81_98, ↓x_81_99, up1_same, up1_ne, up1_up1, us_0, us_1, us_2, us_3, us_4, us_5, us_6, us_7, us_8, us_9, us_10, us_11, rw_zero, rw_succ, Option.toList_some, Option.toList_none, List.cons_append, List.nil_append, cat_int, cat_ref, cat_null, iI_add, iI_sub, iI_mul, iI_neg, List.length_cons, List.length_nil, ↓reduceIte, va_rf_some]
  refine kJ_count hK hJ (by omega) (fun V A P hJ => ?_)
  have w0 : aWeight S.X 0 = 0 := by unfold aWeight; rw [Int.mul_zero, if_neg (by omega)]
  have hfin : ∀ (a : Int32) (V : Nat → Nat → Value) (A : Nat → Nat → Int32) (P : Nat → Nat → Option Nat), lwJ xs t V A P S → Ev (d + 21) 81 137 [.ref 3, .int (iI (S.X.1.length * 6 : Nat)), .int (iI (-2000000)), .int (iI s), .int a] [] (t, V, A, P) Q := fun a V A P hJ => by
    simp (disch := first | assumption | omega | exact isB_z | exact isB_o | exact iI_in' (by assumption) (by omega) (by omega) | exact cat_int _ | exact cat_ref _ | exact cat_null | decide) only [↓x_81_137, ↓x_81_138, ↓x_81_139, up1_same, up1_ne, up1_up1, us_0, us_1, us_2, us_3, us_4, us_5, us_6, us_7, us_8, us_9, us_10, us_11, rw_zero, rw_succ, Option.toList_some, Option.toList_none, List.cons_append, List.nil_append, cat_int, cat_ref, cat_null, iI_add, iI_sub, iI_mul, iI_neg, List.length_cons, List.length_nil, ↓reduceIte, va_rf_some]
    refine kJ_weight hK hJ (by omega) (fun V A P hJ => ?_)
    simp (disch := first | assumption | omega | exact isB_z | exact isB_o | exact iI_in' (by assumption) (by omega) (by omega) | exact cat_int _ | exact cat_ref _ | exact cat_null | decide) only [↓x_81_142, ↓x_81_145, ↓x_81_146, ↓x_81_149, ↓x_81_150, up1_same, up1_ne, up1_up1, us_0, us_1, us_2, us_3, us_4, us_5, us_6, us_7, us_8, us_9, us_10, us_11, rw_zero, rw_succ, Option.toList_some, Option.toList_none, List.cons_append, List.nil_append, cat_int, cat_ref, cat_null, iI_add, iI_sub, iI_mul, iI_neg, List.length_cons, List.length_nil, ↓reduceIte, va_rf_some, w0]
    exact hQ V A P hJ
  by_cases c : wtF S.X (S.X.1.length * 6) < -999999 ∨ 999999 < wtF S.X (S.X.1.length * 6)
  · have w1 : aWeight S.X 1 = -1000000 := by unfold aWeight; rw [Int.mul_one, if_pos c]
    have w2 : aWeight S.X (-1) = -1000000 := by unfold aWeight; rw [if_pos (by omega)]
    simp (disch := first | assumption | omega | exact isB_z | exact isB_o | exact iI_in' (by assumption) (by omega) (by omega) | exact cat_int _ | exact cat_ref _ | exact cat_null | decide) only [↓x_81_102, ↓x_81_103, ↓x_81_106, ↓x_81_108, ↓x_81_110, ↓x_81_113, ↓x_81_114, ↓x_81_115, up1_same, up1_ne, up1_up1, us_0, us_1, us_2, us_3, us_4, us_5, us_6, us_7, us_8, us_9, us_10, us_11, rw_zero, rw_succ, Option.toList_some, Option.toList_none, List.cons_append, List.nil_append, cat_int, cat_ref, cat_null, iI_add, iI_sub, iI_mul, iI_neg, List.length_cons, List.length_nil, ↓reduceIte, va_rf_some, aCount_0, e1, w1]
    refine kJ_weight hK hJ (by omega) (fun V A P hJ => ?_)
    simp (disch := first | assumption | omega | exact isB_z | exact isB_o | exact iI_in' (by assumption) (by omega) (by omega) | exact cat_int _ | exact cat_ref _ | exact cat_null | decide) only [↓x_81_118, ↓x_81_120, ↓x_81_123, up1_same, up1_ne, up1_up1, us_0, us_1, us_2, us_3, us_4, us_5, us_6, us_7, us_8, us_9, us_10, us_11, rw_zero, rw_succ, Option.toList_some, Option.toList_none, List.cons_append, List.nil_append, cat_int, cat_ref, cat_null, iI_add, iI_sub, iI_mul, iI_neg, List.length_cons, List.length_nil, ↓reduceIte, va_rf_some, w2]
    exact hfin _ V A P hJ
  · have w1 : aWeight S.X 1 = wtF S.X (S.X.1.length * 6) := by unfold aWeight; rw [Int.mul_one, if_neg c]
    have w2 : aWeight S.X (-1) = -wtF S.X (S.X.1.length * 6) := by unfold aWeight; rw [if_neg (by omega)]; omega
    have c5 : ¬ wtF S.X (S.X.1.length * 6) = -1000000 := by omega
    simp (disch := first | assumption | omega | exact isB_z | exact isB_o | exact iI_in' (by assumption) (by omega) (by omega) | exact cat_int _ | exact cat_ref _ | exact cat_null | decide) only [↓x_81_102, ↓x_81_103, ↓x_81_106, ↓x_81_108, ↓x_81_110, ↓x_81_126, ↓x_81_127, ↓x_81_128, up1_same, up1_ne, up1_up1, us_0, us_1, us_2, us_3, us_4, us_5, us_6, us_7, us_8, us_9, us_10, us_11, rw_zero, rw_succ, Option.toList_some, Option.toList_none, List.cons_append, List.nil_append, cat_int, cat_ref, cat_null, iI_add, iI_sub, iI_mul, iI_neg, List.length_cons, List.length_nil, ↓reduceIte, va_rf_some, iI_eq, aCount_0, e1, w1, c5]
    refine kJ_weight hK hJ (by omega) (fun V A P hJ => ?_)
    simp (disch := first | assumption | omega | exact isB_z | exact isB_o | exact iI_in' (by assumption) (by omega) (by omega) | exact cat_int _ | exact cat_ref _ | exact cat_null | decide) only [↓x_81_131, ↓x_81_133, ↓x_81_134, up1_same, up1_ne, up1_up1, us_0, us_1, us_2, us_3, us_4, us_5, us_6, us_7, us_8, us_9, us_10, us_11, rw_zero, rw_succ, Option.toList_some, Option.toList_none, List.cons_append, List.nil_append, cat_int, cat_ref, cat_null, iI_add, iI_sub, iI_mul, iI_neg, List.length_cons, List.length_nil, ↓reduceIte, va_rf_some, w2]
    exact hfin _ V A P hJ
end
