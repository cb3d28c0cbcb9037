/-! THE LAW: the loop, and all of it -/
theorem exK_eq {N N' S S' : Nat} {K K' : Nat → Nat × Nat} (h : exK (N, S, K)) (hK : ∀ a, a < 62 → K' a = K a) : exK (N', S', K') := by
  have w : ∀ w : Nat, w + 3 < 62 → wiK (N, S, K) w → wiK (N', S', K') w := fun w hw q => by
    simp only [wiK, kd, ln] at q ⊢
    rw [hK w (by omega), hK (w + 1) (by omega), hK (w + 2) (by omega), hK (w + 3) (by omega)]
    exact q
  obtain ⟨k1, k2, k3, k4, k5, k6, k7, k8, k9, k10, k11, k12⟩ := h
  refine ⟨?_, w 4 (by omega) k2, ?_, ?_, ?_, ?_, ?_, ?_, ?_, ?_, fun j hj => w _ (by omega) (k11 j hj), fun j hj => w _ (by omega) (k12 j hj)⟩
  · simp only [kd] at k1 ⊢; rw [hK 3 (by omega)]; exact k1
  · simp only [kd, ln] at k3 ⊢; rw [hK 8 (by omega)]; exact k3
  · simp only [kd, ln] at k4 ⊢; rw [hK 9 (by omega)]; exact k4
  · simp only [kd, ln] at k5 ⊢; rw [hK 10 (by omega)]; exact k5
  · simp only [kd, ln] at k6 ⊢; rw [hK 11 (by omega)]; exact k6
  · simp only [kd, ln] at k7 ⊢; rw [hK 12 (by omega)]; exact k7
  · simp only [rdK, kd, ln] at k8 ⊢
    rw [hK 13 (by omega), hK (13 + 1) (by omega), hK (13 + 2) (by omega), hK (13 + 3) (by omega)]
    exact k8
  · simp only [orK, kd, ln] at k9 ⊢
    rw [hK 17 (by omega), hK (17 + 1) (by omega), hK (17 + 2) (by omega), hK (17 + 3) (by omega), hK (17 + 4) (by omega)]
    obtain ⟨q1, q2, q3, q4, q5, q6, q7, q8, q9, q10⟩ := k9
    exact ⟨q1, q2, q3, q4, q5, q6, q7, q8, q9, fun j hj => by rw [hK _ (by omega)]; exact q10 j hj⟩
  · simp only [kd] at k10 ⊢; rw [hK 29 (by omega)]; exact k10
section
variable {t : mL} {V : Nat → Nat → Value} {A : Nat → Nat → Int32} {P : Nat → Nat → Option Nat} {Q : Option Value → mM → Prop} {xs : Nat → Int32}
theorem lw_loop {L : Nat} (hK : exK t) (hM : mK t) (hsc : kd t 2 = 10 ∧ ln t 2 = L) (hL : L ≤ 2560) (hQ : ∀ (V' : Nat → Nat → Value) (A' : Nat → Nat → Int32) (P' : Nat → Nat → Option Nat), Q (some (.int (iI 1))) (t, V', A', P')) : ∀ (k i : Nat) (V : Nat → Nat → Value) (A : Nat → Nat → Int32) (P : Nat → Nat → Option Nat), L < i + k → i ≤ L → lwI xs t V A P → Ev 40 131 18 [.ref 2, .ref 3, .ref 62, .int (iI i)] [] (t, V, A, P) Q := by
  have s1 := hsc.1
  have s2 := hsc.2
  intro k
  induction k with
  | zero => intro i V A P h1 h2; omega
  | succ k ih =>
    intro i V A P h1 h2 hI
    by_cases c : (L : Int) - 5 < i
    · simp (disch := first | assumption | omega | exact isB_z | exact isB_o | exact iI_in' (by assumption) (by omega) (by omega) | exact cat_int _ | exact cat_ref _ | exact cat_null | decide) only [↓x_131_18, ↓x_131_19, ↓x_131_20, ↓x_131_21, ↓x_131_22, ↓x_131_23, ↓x_131_661, ↓x_131_662, up1_same, up1_ne, up1_up1, us_0, us_1, us_2, us_3, us_4, us_5, us_6, us_7, us_8, us_9, us_10, us_11, rw_zero, rw_succ, Option.toList_some, Option.toList_none, List.cons_append, List.nil_append, cat_int, cat_ref, cat_null, iI_add, iI_sub, iI_mul, iI_neg, List.length_cons, List.length_nil, ↓reduceIte, va_rf_some, s2, ofNat_iI, iI_lt, c]
      exact hQ V A P
    · have ci : (i : Int) + 5 = ((i + 5 : Nat) : Int) := by omega
      have hi : i + 5 ≤ L := by omega
      have hN : ∀ (V' : Nat → Nat → Value) (A' : Nat → Nat → Int32) (P' : Nat → Nat → Option Nat), lwI xs t V' A' P' → Ev 40 131 655 [.ref 2, .ref 3, .ref 62, .int (iI i)] [] (t, V', A', P') Q := fun V' A' P' hI' => by
        simp (disch := first | assumption | omega | exact isB_z | exact isB_o | exact iI_in' (by assumption) (by omega) (by omega) | exact cat_int _ | exact cat_ref _ | exact cat_null | decide) only [↓x_131_655, ↓x_131_658, up1_same, up1_ne, up1_up1, us_0, us_1, us_2, us_3, us_4, us_5, us_6, us_7, us_8, us_9, us_10, us_11, rw_zero, rw_succ, Option.toList_some, Option.toList_none, List.cons_append, List.nil_append, cat_int, cat_ref, cat_null, iI_add, iI_sub, iI_mul, iI_neg, List.length_cons, List.length_nil, ↓reduceIte, va_rf_some, ci]
        exact ih (i + 5) V' A' P' (by omega) hi hI'
      simp (disch := first | assumption | omega | exact isB_z | exact isB_o | exact iI_in' (by assumption) (by omega) (by omega) | exact cat_int _ | exact cat_ref _ | exact cat_null | decide) only [↓x_131_18, ↓x_131_19, ↓x_131_20, ↓x_131_21, ↓x_131_22, ↓x_131_23, ↓x_131_26, ↓x_131_27, ↓x_131_28, ↓x_131_29, ↓x_131_31, up1_same, up1_ne, up1_up1, us_0, us_1, us_2, us_3, us_4, us_5, us_6, us_7, us_8, us_9, us_10, us_11, rw_zero, rw_succ, Option.toList_some, Option.toList_none, List.cons_append, List.nil_append, cat_int, cat_ref, cat_null, iI_add, iI_sub, iI_mul, iI_neg, List.length_cons, List.length_nil, ↓reduceIte, va_rf_some, s2, ofNat_iI, iI_lt, c, if_false]
      generalize A 2 (iI (i : Int)).toNatClampNeg &&& iI 31 = z
      rw [x_131_32]
      by_cases c0 : z = iI 0
      · rw [if_pos c0]; exact lw_type hK hM hsc hi hL hI hN
      rw [if_neg c0]
      by_cases c1 : z = iI 1
      · rw [if_pos c1]; exact lw_clear hK hM hsc hi hL hI hN
      rw [if_neg c1]
      by_cases c2 : z = iI 2
      · rw [if_pos c2]; exact lw_tells hK hM hsc hi hL hI hN
      rw [if_neg c2]
      by_cases c3 : z = iI 3
      · rw [if_pos c3]; exact lw_sends hK hM hsc hi hL hI hN
      rw [if_neg c3]
      by_cases c4 : z = iI 4
      · rw [if_pos c4]; exact lw_marks hK hM hsc hi hL hI hN
      rw [if_neg c4]
      by_cases c5 : z = iI 5
      · rw [if_pos c5]; exact lw_flips hK hM hsc hi hL hI hN
      rw [if_neg c5]
      by_cases c6 : z = iI 6
      · rw [if_pos c6]; exact lw_clears hK hM hsc hi hL hI hN
      rw [if_neg c6]
      by_cases c7 : z = iI 7
      · rw [if_pos c7]; exact lw_undo hK hM hsc hi hL hI hN
      rw [if_neg c7]
      by_cases c8 : z = iI 8
      · rw [if_pos c8]; exact lw_form hK hM hsc hi hL hI hN
      rw [if_neg c8]
      by_cases c9 : z = iI 9
      · rw [if_pos c9]; exact lw_bit hK hM hsc hi hL hI hN
      rw [if_neg c9]
      by_cases c10 : z = iI 10
      · rw [if_pos c10]; exact lw_word hK hM hsc hi hL hI hN
      rw [if_neg c10]
      by_cases c11 : z = iI 11
      · rw [if_pos c11]; exact lw_recent hK hM hsc hi hL hI hN
      rw [if_neg c11]
      by_cases c12 : z = iI 12
      · rw [if_pos c12]; exact lw_piece hK hM hsc hi hL hI hN
      rw [if_neg c12]
      by_cases c13 : z = iI 13
      · rw [if_pos c13]; exact lw_read hK hM hsc hi hL hI hN
      rw [if_neg c13]
      by_cases c14 : z = iI 14
      · rw [if_pos c14]; exact lw_cuts hK hM hsc hi hL hI hN
      rw [if_neg c14]
      by_cases c15 : z = iI 15
      · rw [if_pos c15]; exact lw_level hK hM hsc hi hL hI hN
      rw [if_neg c15]
      by_cases c16 : z = iI 16
      · rw [if_pos c16]; exact lw_evenest hK hM hsc hi hL hI hN
      rw [if_neg c16]
      by_cases c17 : z = iI 17
      · rw [if_pos c17]; exact lw_weight hK hM hsc hi hL hI hN
      rw [if_neg c17]
      by_cases c18 : z = iI 18
      · rw [if_pos c18]; exact lw_keep hK hM hsc hi hL hI hN
      rw [if_neg c18]
      by_cases c19 : z = iI 19
      · rw [if_pos c19]; exact lw_back hK hM hsc hi hL hI hN
      rw [if_neg c19]
      by_cases c20 : z = iI 20
      · rw [if_pos c20]; exact lw_count hK hM hsc hi hL hI hN
      rw [if_neg c20]
      exact hN V A P hI
end
