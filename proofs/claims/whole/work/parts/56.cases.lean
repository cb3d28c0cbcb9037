/-! THE LAW: call by call -/
section
variable {t : mL} {V : Nat → Nat → Value} {A : Nat → Nat → Int32} {P : Nat → Nat → Option Nat} {Q : Option Value → mM → Prop} {xs : Nat → Int32}
set_option maxHeartbeats 400000 in
theorem lw_type {i L : Nat} (hK : exK t) (hM : mK t) (hsc : kd t 2 = 10 ∧ ln t 2 = L) (hi : i + 5 ≤ L) (hL : L ≤ 2560) (hI : lwI xs t V A P) (hN : ∀ (V' : Nat → Nat → Value) (A' : Nat → Nat → Int32) (P' : Nat → Nat → Option Nat), lwI xs t V' A' P' → Ev 40 132 655 [.ref 2, .ref 3, .ref 62, .int (iI i)] [] (t, V', A', P') Q) : Ev 40 132 132 [.ref 2, .ref 3, .ref 62, .int (iI i)] [] (t, V, A, P) Q := by
  obtain ⟨S, e, g, h, hv, hr, hT, hs⟩ := hI
  have hS := h.wfS
  obtain ⟨s1, s2⟩ := hsc
  have k3 := hK.1
  have k62 := hM.1
  obtain ⟨z1, z1a, z1c, e1⟩ := iI_of (A 2 ((i : Int) + 1).toNat)
  have z1b : -2147483648 ≤ z1 ∧ z1 < 2147483648 := ⟨z1a, z1c⟩
  simp (disch := first | assumption | omega | exact isB_z | exact isB_o | exact iI_in' (by assumption) (by omega) (by omega) | exact cat_int _ | exact cat_ref _ | exact cat_null | decide) only [↓x_132_132, ↓x_132_133, ↓x_132_134, ↓x_132_135, ↓x_132_136, ↓x_132_137, up1_same, up1_ne, up1_up1, us_0, us_1, us_2, us_3, us_4, us_5, us_6, us_7, us_8, us_9, us_10, us_11, rw_zero, rw_succ, Option.toList_some, Option.toList_none, List.cons_append, List.nil_append, cat_int, cat_ref, cat_null, iI_add, iI_sub, iI_mul, iI_neg, List.length_cons, List.length_nil, ↓reduceIte, va_rf_some, iI_cl, e1]
  simp (disch := first | assumption | omega | exact isB_z | exact isB_o | exact iI_in' (by assumption) (by omega) (by omega) | exact cat_int _ | exact cat_ref _ | exact cat_null | decide) only [↓x_132_138, up1_same, up1_ne, up1_up1, us_0, us_1, us_2, us_3, us_4, us_5, us_6, us_7, us_8, us_9, us_10, us_11, rw_zero, rw_succ, Option.toList_some, Option.toList_none, List.cons_append, List.nil_append, cat_int, cat_ref, cat_null, iI_add, iI_sub, iI_mul, iI_neg, List.length_cons, List.length_nil, ↓reduceIte, va_rf_some]
  refine k_type hK h z1b (fun V' A' P' e' q1 q2 => ?_)
  obtain ⟨r1, r2, r3⟩ := lw_mid q2 hv hr
  rw [r1]
  simp (disch := first | assumption | omega | exact isB_z | exact isB_o | exact iI_in' (by assumption) (by omega) (by omega) | exact cat_int _ | exact cat_ref _ | exact cat_null | decide) only [↓x_132_141, ↓x_132_142, ↓x_132_143, ↓x_132_144, ↓x_132_145, ↓x_132_146, up1_same, up1_ne, up1_up1, us_0, us_1, us_2, us_3, us_4, us_5, us_6, us_7, us_8, us_9, us_10, us_11, rw_zero, rw_succ, Option.toList_some, Option.toList_none, List.cons_append, List.nil_append, cat_int, cat_ref, cat_null, iI_add, iI_sub, iI_mul, iI_neg, List.length_cons, List.length_nil, ↓reduceIte, va_rf_some, iI_cl, r3, e1]
  simp (disch := first | assumption | omega | exact isB_z | exact isB_o | exact iI_in' (by assumption) (by omega) (by omega) | exact cat_int _ | exact cat_ref _ | exact cat_null | decide) only [↓x_132_147, up1_same, up1_ne, up1_up1, us_0, us_1, us_2, us_3, us_4, us_5, us_6, us_7, us_8, us_9, us_10, us_11, rw_zero, rw_succ, Option.toList_some, Option.toList_none, List.cons_append, List.nil_append, cat_int, cat_ref, cat_null, iI_add, iI_sub, iI_mul, iI_neg, List.length_cons, List.length_nil, ↓reduceIte, va_rf_some]
  refine km_type hM hS r2 z1b (fun g' A2 u1 u2 => ?_)
  simp (disch := first | assumption | omega | exact isB_z | exact isB_o | exact iI_in' (by assumption) (by omega) (by omega) | exact cat_int _ | exact cat_ref _ | exact cat_null | decide) only [↓x_132_150, up1_same, up1_ne, up1_up1, us_0, us_1, us_2, us_3, us_4, us_5, us_6, us_7, us_8, us_9, us_10, us_11, rw_zero, rw_succ, Option.toList_some, Option.toList_none, List.cons_append, List.nil_append, cat_int, cat_ref, cat_null, iI_add, iI_sub, iI_mul, iI_neg, List.length_cons, List.length_nil, ↓reduceIte, va_rf_some]
  exact hN _ A2 P' (lw_end hT hs q1 q2 u1 u2)
set_option maxHeartbeats 400000 in
theorem lw_clear {i L : Nat} (hK : exK t) (hM : mK t) (hsc : kd t 2 = 10 ∧ ln t 2 = L) (hi : i + 5 ≤ L) (hL : L ≤ 2560) (hI : lwI xs t V A P) (hN : ∀ (V' : Nat → Nat → Value) (A' : Nat → Nat → Int32) (P' : Nat → Nat → Option Nat), lwI xs t V' A' P' → Ev 40 132 655 [.ref 2, .ref 3, .ref 62, .int (iI i)] [] (t, V', A', P') Q) : Ev 40 132 155 [.ref 2, .ref 3, .ref 62, .int (iI i)] [] (t, V, A, P) Q := by
  obtain ⟨S, e, g, h, hv, hr, hT, hs⟩ := hI
  have hS := h.wfS
  obtain ⟨s1, s2⟩ := hsc
  have k3 := hK.1
  have k62 := hM.1
  simp (disch := first | assumption | omega | exact isB_z | exact isB_o | exact iI_in' (by assumption) (by omega) (by omega) | exact cat_int _ | exact cat_ref _ | exact cat_null | decide) only [↓x_132_155, up1_same, up1_ne, up1_up1, us_0, us_1, us_2, us_3, us_4, us_5, us_6, us_7, us_8, us_9, us_10, us_11, rw_zero, rw_succ, Option.toList_some, Option.toList_none, List.cons_append, List.nil_append, cat_int, cat_ref, cat_null, iI_add, iI_sub, iI_mul, iI_neg, List.length_cons, List.length_nil, ↓reduceIte, va_rf_some, iI_cl]
  simp (disch := first | assumption | omega | exact isB_z | exact isB_o | exact iI_in' (by assumption) (by omega) (by omega) | exact cat_int _ | exact cat_ref _ | exact cat_null | decide) only [↓x_132_156, up1_same, up1_ne, up1_up1, us_0, us_1, us_2, us_3, us_4, us_5, us_6, us_7, us_8, us_9, us_10, us_11, rw_zero, rw_succ, Option.toList_some, Option.toList_none, List.cons_append, List.nil_append, cat_int, cat_ref, cat_null, iI_add, iI_sub, iI_mul, iI_neg, List.length_cons, List.length_nil, ↓reduceIte, va_rf_some]
  refine k_clear hK h (fun V' A' P' e' q1 q2 => ?_)
  obtain ⟨r1, r2, r3⟩ := lw_mid q2 hv hr
  rw [r1]
  simp (disch := first | assumption | omega | exact isB_z | exact isB_o | exact iI_in' (by assumption) (by omega) (by omega) | exact cat_int _ | exact cat_ref _ | exact cat_null | decide) only [↓x_132_159, up1_same, up1_ne, up1_up1, us_0, us_1, us_2, us_3, us_4, us_5, us_6, us_7, us_8, us_9, us_10, us_11, rw_zero, rw_succ, Option.toList_some, Option.toList_none, List.cons_append, List.nil_append, cat_int, cat_ref, cat_null, iI_add, iI_sub, iI_mul, iI_neg, List.length_cons, List.length_nil, ↓reduceIte, va_rf_some, iI_cl, r3]
  simp (disch := first | assumption | omega | exact isB_z | exact isB_o | exact iI_in' (by assumption) (by omega) (by omega) | exact cat_int _ | exact cat_ref _ | exact cat_null | decide) only [↓x_132_160, up1_same, up1_ne, up1_up1, us_0, us_1, us_2, us_3, us_4, us_5, us_6, us_7, us_8, us_9, us_10, us_11, rw_zero, rw_succ, Option.toList_some, Option.toList_none, List.cons_append, List.nil_append, cat_int, cat_ref, cat_null, iI_add, iI_sub, iI_mul, iI_neg, List.length_cons, List.length_nil, ↓reduceIte, va_rf_some]
  refine km_clear hM r2 (fun g' A2 u1 u2 => ?_)
  simp (disch := first | assumption | omega | exact isB_z | exact isB_o | exact iI_in' (by assumption) (by omega) (by omega) | exact cat_int _ | exact cat_ref _ | exact cat_null | decide) only [↓x_132_163, up1_same, up1_ne, up1_up1, us_0, us_1, us_2, us_3, us_4, us_5, us_6, us_7, us_8, us_9, us_10, us_11, rw_zero, rw_succ, Option.toList_some, Option.toList_none, List.cons_append, List.nil_append, cat_int, cat_ref, cat_null, iI_add, iI_sub, iI_mul, iI_neg, List.length_cons, List.length_nil, ↓reduceIte, va_rf_some]
  exact hN _ A2 P' (lw_end hT hs q1 q2 u1 u2)
set_option maxHeartbeats 400000 in
theorem lw_tells {i L : Nat} (hK : exK t) (hM : mK t) (hsc : kd t 2 = 10 ∧ ln t 2 = L) (hi : i + 5 ≤ L) (hL : L ≤ 2560) (hI : lwI xs t V A P) (hN : ∀ (V' : Nat → Nat → Value) (A' : Nat → Nat → Int32) (P' : Nat → Nat → Option Nat), lwI xs t V' A' P' → Ev 40 132 655 [.ref 2, .ref 3, .ref 62, .int (iI i)] [] (t, V', A', P') Q) : Ev 40 132 168 [.ref 2, .ref 3, .ref 62, .int (iI i)] [] (t, V, A, P) Q := by
  obtain ⟨S, e, g, h, hv, hr, hT, hs⟩ := hI
  have hS := h.wfS
  obtain ⟨s1, s2⟩ := hsc
  have k3 := hK.1
  have k62 := hM.1
  simp (disch := first | assumption | omega | exact isB_z | exact isB_o | exact iI_in' (by assumption) (by omega) (by omega) | exact cat_int _ | exact cat_ref _ | exact cat_null | decide) only [↓x_132_168, up1_same, up1_ne, up1_up1, us_0, us_1, us_2, us_3, us_4, us_5, us_6, us_7, us_8, us_9, us_10, us_11, rw_zero, rw_succ, Option.toList_some, Option.toList_none, List.cons_append, List.nil_append, cat_int, cat_ref, cat_null, iI_add, iI_sub, iI_mul, iI_neg, List.length_cons, List.length_nil, ↓reduceIte, va_rf_some, iI_cl]
  simp (disch := first | assumption | omega | exact isB_z | exact isB_o | exact iI_in' (by assumption) (by omega) (by omega) | exact cat_int _ | exact cat_ref _ | exact cat_null | decide) only [↓x_132_169, up1_same, up1_ne, up1_up1, us_0, us_1, us_2, us_3, us_4, us_5, us_6, us_7, us_8, us_9, us_10, us_11, rw_zero, rw_succ, Option.toList_some, Option.toList_none, List.cons_append, List.nil_append, cat_int, cat_ref, cat_null, iI_add, iI_sub, iI_mul, iI_neg, List.length_cons, List.length_nil, ↓reduceIte, va_rf_some]
  refine k_tells hK hT h (fun V' A' P' e' q1 q2 => ?_)
  obtain ⟨r1, r2, r3⟩ := lw_mid q2 hv hr
  rw [r1]
  simp (disch := first | assumption | omega | exact isB_z | exact isB_o | exact iI_in' (by assumption) (by omega) (by omega) | exact cat_int _ | exact cat_ref _ | exact cat_null | decide) only [↓x_132_172, up1_same, up1_ne, up1_up1, us_0, us_1, us_2, us_3, us_4, us_5, us_6, us_7, us_8, us_9, us_10, us_11, rw_zero, rw_succ, Option.toList_some, Option.toList_none, List.cons_append, List.nil_append, cat_int, cat_ref, cat_null, iI_add, iI_sub, iI_mul, iI_neg, List.length_cons, List.length_nil, ↓reduceIte, va_rf_some, iI_cl, r3]
  simp (disch := first | assumption | omega | exact isB_z | exact isB_o | exact iI_in' (by assumption) (by omega) (by omega) | exact cat_int _ | exact cat_ref _ | exact cat_null | decide) only [↓x_132_173, up1_same, up1_ne, up1_up1, us_0, us_1, us_2, us_3, us_4, us_5, us_6, us_7, us_8, us_9, us_10, us_11, rw_zero, rw_succ, Option.toList_some, Option.toList_none, List.cons_append, List.nil_append, cat_int, cat_ref, cat_null, iI_add, iI_sub, iI_mul, iI_neg, List.length_cons, List.length_nil, ↓reduceIte, va_rf_some]
  refine km_tells hM hS r2 (fun g' A2 u1 u2 => ?_)
  simp (disch := first | assumption | omega | exact isB_z | exact isB_o | exact iI_in' (by assumption) (by omega) (by omega) | exact cat_int _ | exact cat_ref _ | exact cat_null | decide) only [↓x_132_176, up1_same, up1_ne, up1_up1, us_0, us_1, us_2, us_3, us_4, us_5, us_6, us_7, us_8, us_9, us_10, us_11, rw_zero, rw_succ, Option.toList_some, Option.toList_none, List.cons_append, List.nil_append, cat_int, cat_ref, cat_null, iI_add, iI_sub, iI_mul, iI_neg, List.length_cons, List.length_nil, ↓reduceIte, va_rf_some]
  exact hN _ A2 P' (lw_end hT hs q1 q2 u1 u2)
set_option maxHeartbeats 400000 in
theorem lw_sends {i L : Nat} (hK : exK t) (hM : mK t) (hsc : kd t 2 = 10 ∧ ln t 2 = L) (hi : i + 5 ≤ L) (hL : L ≤ 2560) (hI : lwI xs t V A P) (hN : ∀ (V' : Nat → Nat → Value) (A' : Nat → Nat → Int32) (P' : Nat → Nat → Option Nat), lwI xs t V' A' P' → Ev 40 132 655 [.ref 2, .ref 3, .ref 62, .int (iI i)] [] (t, V', A', P') Q) : Ev 40 132 181 [.ref 2, .ref 3, .ref 62, .int (iI i)] [] (t, V, A, P) Q := by
  obtain ⟨S, e, g, h, hv, hr, hT, hs⟩ := hI
  have hS := h.wfS
  obtain ⟨s1, s2⟩ := hsc
  have k3 := hK.1
  have k62 := hM.1
  obtain ⟨z1, z1a, z1c, e1⟩ := iI_of (A 2 ((i : Int) + 1).toNat)
  have z1b : -2147483648 ≤ z1 ∧ z1 < 2147483648 := ⟨z1a, z1c⟩
  simp (disch := first | assumption | omega | exact isB_z | exact isB_o | exact iI_in' (by assumption) (by omega) (by omega) | exact cat_int _ | exact cat_ref _ | exact cat_null | decide) only [↓x_132_181, ↓x_132_182, ↓x_132_183, ↓x_132_184, ↓x_132_185, ↓x_132_186, up1_same, up1_ne, up1_up1, us_0, us_1, us_2, us_3, us_4, us_5, us_6, us_7, us_8, us_9, us_10, us_11, rw_zero, rw_succ, Option.toList_some, Option.toList_none, List.cons_append, List.nil_append, cat_int, cat_ref, cat_null, iI_add, iI_sub, iI_mul, iI_neg, List.length_cons, List.length_nil, ↓reduceIte, va_rf_some, iI_cl, e1]
  simp (disch := first | assumption | omega | exact isB_z | exact isB_o | exact iI_in' (by assumption) (by omega) (by omega) | exact cat_int _ | exact cat_ref _ | exact cat_null | decide) only [↓x_132_187, up1_same, up1_ne, up1_up1, us_0, us_1, us_2, us_3, us_4, us_5, us_6, us_7, us_8, us_9, us_10, us_11, rw_zero, rw_succ, Option.toList_some, Option.toList_none, List.cons_append, List.nil_append, cat_int, cat_ref, cat_null, iI_add, iI_sub, iI_mul, iI_neg, List.length_cons, List.length_nil, ↓reduceIte, va_rf_some]
  refine k_sends hK hT h z1b (fun V' A' P' e' q1 q2 => ?_)
  obtain ⟨r1, r2, r3⟩ := lw_mid q2 hv hr
  rw [r1]
  simp (disch := first | assumption | omega | exact isB_z | exact isB_o | exact iI_in' (by assumption) (by omega) (by omega) | exact cat_int _ | exact cat_ref _ | exact cat_null | decide) only [↓x_132_190, ↓x_132_191, ↓x_132_192, ↓x_132_193, ↓x_132_194, ↓x_132_195, up1_same, up1_ne, up1_up1, us_0, us_1, us_2, us_3, us_4, us_5, us_6, us_7, us_8, us_9, us_10, us_11, rw_zero, rw_succ, Option.toList_some, Option.toList_none, List.cons_append, List.nil_append, cat_int, cat_ref, cat_null, iI_add, iI_sub, iI_mul, iI_neg, List.length_cons, List.length_nil, ↓reduceIte, va_rf_some, iI_cl, r3, e1]
  simp (disch := first | assumption | omega | exact isB_z | exact isB_o | exact iI_in' (by assumption) (by omega) (by omega) | exact cat_int _ | exact cat_ref _ | exact cat_null | decide) only [↓x_132_196, up1_same, up1_ne, up1_up1, us_0, us_1, us_2, us_3, us_4, us_5, us_6, us_7, us_8, us_9, us_10, us_11, rw_zero, rw_succ, Option.toList_some, Option.toList_none, List.cons_append, List.nil_append, cat_int, cat_ref, cat_null, iI_add, iI_sub, iI_mul, iI_neg, List.length_cons, List.length_nil, ↓reduceIte, va_rf_some]
  refine km_sends hM hS r2 z1b (fun g' A2 u1 u2 => ?_)
  simp (disch := first | assumption | omega | exact isB_z | exact isB_o | exact iI_in' (by assumption) (by omega) (by omega) | exact cat_int _ | exact cat_ref _ | exact cat_null | decide) only [↓x_132_199, up1_same, up1_ne, up1_up1, us_0, us_1, us_2, us_3, us_4, us_5, us_6, us_7, us_8, us_9, us_10, us_11, rw_zero, rw_succ, Option.toList_some, Option.toList_none, List.cons_append, List.nil_append, cat_int, cat_ref, cat_null, iI_add, iI_sub, iI_mul, iI_neg, List.length_cons, List.length_nil, ↓reduceIte, va_rf_some]
  exact hN _ A2 P' (lw_end hT hs q1 q2 u1 u2)
set_option maxHeartbeats 400000 in
theorem lw_marks {i L : Nat} (hK : exK t) (hM : mK t) (hsc : kd t 2 = 10 ∧ ln t 2 = L) (hi : i + 5 ≤ L) (hL : L ≤ 2560) (hI : lwI xs t V A P) (hN : ∀ (V' : Nat → Nat → Value) (A' : Nat → Nat → Int32) (P' : Nat → Nat → Option Nat), lwI xs t V' A' P' → Ev 40 132 655 [.ref 2, .ref 3, .ref 62, .int (iI i)] [] (t, V', A', P') Q) : Ev 40 132 204 [.ref 2, .ref 3, .ref 62, .int (iI i)] [] (t, V, A, P) Q := by
  obtain ⟨S, e, g, h, hv, hr, hT, hs⟩ := hI
  have hS := h.wfS
  obtain ⟨s1, s2⟩ := hsc
  have k3 := hK.1
  have k62 := hM.1
  obtain ⟨z1, z1a, z1c, e1⟩ := iI_of (A 2 ((i : Int) + 1).toNat)
  have z1b : -2147483648 ≤ z1 ∧ z1 < 2147483648 := ⟨z1a, z1c⟩
  simp (disch := first | assumption | omega | exact isB_z | exact isB_o | exact iI_in' (by assumption) (by omega) (by omega) | exact cat_int _ | exact cat_ref _ | exact cat_null | decide) only [↓x_132_204, ↓x_132_205, ↓x_132_206, ↓x_132_207, ↓x_132_208, ↓x_132_209, up1_same, up1_ne, up1_up1, us_0, us_1, us_2, us_3, us_4, us_5, us_6, us_7, us_8, us_9, us_10, us_11, rw_zero, rw_succ, Option.toList_some, Option.toList_none, List.cons_append, List.nil_append, cat_int, cat_ref, cat_null, iI_add, iI_sub, iI_mul, iI_neg, List.length_cons, List.length_nil, ↓reduceIte, va_rf_some, iI_cl, e1]
  simp (disch := first | assumption | omega | exact isB_z | exact isB_o | exact iI_in' (by assumption) (by omega) (by omega) | exact cat_int _ | exact cat_ref _ | exact cat_null | decide) only [↓x_132_210, up1_same, up1_ne, up1_up1, us_0, us_1, us_2, us_3, us_4, us_5, us_6, us_7, us_8, us_9, us_10, us_11, rw_zero, rw_succ, Option.toList_some, Option.toList_none, List.cons_append, List.nil_append, cat_int, cat_ref, cat_null, iI_add, iI_sub, iI_mul, iI_neg, List.length_cons, List.length_nil, ↓reduceIte, va_rf_some]
  refine k_marks hK hT h z1b (fun V' A' P' e' q1 q2 => ?_)
  obtain ⟨r1, r2, r3⟩ := lw_mid q2 hv hr
  rw [r1]
  simp (disch := first | assumption | omega | exact isB_z | exact isB_o | exact iI_in' (by assumption) (by omega) (by omega) | exact cat_int _ | exact cat_ref _ | exact cat_null | decide) only [↓x_132_213, ↓x_132_214, ↓x_132_215, ↓x_132_216, ↓x_132_217, ↓x_132_218, up1_same, up1_ne, up1_up1, us_0, us_1, us_2, us_3, us_4, us_5, us_6, us_7, us_8, us_9, us_10, us_11, rw_zero, rw_succ, Option.toList_some, Option.toList_none, List.cons_append, List.nil_append, cat_int, cat_ref, cat_null, iI_add, iI_sub, iI_mul, iI_neg, List.length_cons, List.length_nil, ↓reduceIte, va_rf_some, iI_cl, r3, e1]
  simp (disch := first | assumption | omega | exact isB_z | exact isB_o | exact iI_in' (by assumption) (by omega) (by omega) | exact cat_int _ | exact cat_ref _ | exact cat_null | decide) only [↓x_132_219, up1_same, up1_ne, up1_up1, us_0, us_1, us_2, us_3, us_4, us_5, us_6, us_7, us_8, us_9, us_10, us_11, rw_zero, rw_succ, Option.toList_some, Option.toList_none, List.cons_append, List.nil_append, cat_int, cat_ref, cat_null, iI_add, iI_sub, iI_mul, iI_neg, List.length_cons, List.length_nil, ↓reduceIte, va_rf_some]
  refine km_marks hM hS r2 z1b (fun g' A2 u1 u2 => ?_)
  simp (disch := first | assumption | omega | exact isB_z | exact isB_o | exact iI_in' (by assumption) (by omega) (by omega) | exact cat_int _ | exact cat_ref _ | exact cat_null | decide) only [↓x_132_222, up1_same, up1_ne, up1_up1, us_0, us_1, us_2, us_3, us_4, us_5, us_6, us_7, us_8, us_9, us_10, us_11, rw_zero, rw_succ, Option.toList_some, Option.toList_none, List.cons_append, List.nil_append, cat_int, cat_ref, cat_null, iI_add, iI_sub, iI_mul, iI_neg, List.length_cons, List.length_nil, ↓reduceIte, va_rf_some]
  exact hN _ A2 P' (lw_end hT hs q1 q2 u1 u2)
set_option maxHeartbeats 400000 in
theorem lw_flips {i L : Nat} (hK : exK t) (hM : mK t) (hsc : kd t 2 = 10 ∧ ln t 2 = L) (hi : i + 5 ≤ L) (hL : L ≤ 2560) (hI : lwI xs t V A P) (hN : ∀ (V' : Nat → Nat → Value) (A' : Nat → Nat → Int32) (P' : Nat → Nat → Option Nat), lwI xs t V' A' P' → Ev 40 132 655 [.ref 2, .ref 3, .ref 62, .int (iI i)] [] (t, V', A', P') Q) : Ev 40 132 227 [.ref 2, .ref 3, .ref 62, .int (iI i)] [] (t, V, A, P) Q := by
  obtain ⟨S, e, g, h, hv, hr, hT, hs⟩ := hI
  have hS := h.wfS
  obtain ⟨s1, s2⟩ := hsc
  have k3 := hK.1
  have k62 := hM.1
  obtain ⟨z1, z1a, z1c, e1⟩ := iI_of (A 2 ((i : Int) + 1).toNat)
  have z1b : -2147483648 ≤ z1 ∧ z1 < 2147483648 := ⟨z1a, z1c⟩
  simp (disch := first | assumption | omega | exact isB_z | exact isB_o | exact iI_in' (by assumption) (by omega) (by omega) | exact cat_int _ | exact cat_ref _ | exact cat_null | decide) only [↓x_132_227, ↓x_132_228, ↓x_132_229, ↓x_132_230, ↓x_132_231, ↓x_132_232, up1_same, up1_ne, up1_up1, us_0, us_1, us_2, us_3, us_4, us_5, us_6, us_7, us_8, us_9, us_10, us_11, rw_zero, rw_succ, Option.toList_some, Option.toList_none, List.cons_append, List.nil_append, cat_int, cat_ref, cat_null, iI_add, iI_sub, iI_mul, iI_neg, List.length_cons, List.length_nil, ↓reduceIte, va_rf_some, iI_cl, e1]
  simp (disch := first | assumption | omega | exact isB_z | exact isB_o | exact iI_in' (by assumption) (by omega) (by omega) | exact cat_int _ | exact cat_ref _ | exact cat_null | decide) only [↓x_132_233, up1_same, up1_ne, up1_up1, us_0, us_1, us_2, us_3, us_4, us_5, us_6, us_7, us_8, us_9, us_10, us_11, rw_zero, rw_succ, Option.toList_some, Option.toList_none, List.cons_append, List.nil_append, cat_int, cat_ref, cat_null, iI_add, iI_sub, iI_mul, iI_neg, List.length_cons, List.length_nil, ↓reduceIte, va_rf_some]
  refine k_flips hK h z1b (fun V' A' P' e' q1 q2 => ?_)
  obtain ⟨r1, r2, r3⟩ := lw_mid q2 hv hr
  rw [r1]
  simp (disch := first | assumption | omega | exact isB_z | exact isB_o | exact iI_in' (by assumption) (by omega) (by omega) | exact cat_int _ | exact cat_ref _ | exact cat_null | decide) only [↓x_132_236, ↓x_132_237, ↓x_132_238, ↓x_132_239, ↓x_132_240, ↓x_132_241, up1_same, up1_ne, up1_up1, us_0, us_1, us_2, us_3, us_4, us_5, us_6, us_7, us_8, us_9, us_10, us_11, rw_zero, rw_succ, Option.toList_some, Option.toList_none, List.cons_append, List.nil_append, cat_int, cat_ref, cat_null, iI_add, iI_sub, iI_mul, iI_neg, List.length_cons, List.length_nil, ↓reduceIte, va_rf_some, iI_cl, r3, e1]
  simp (disch := first | assumption | omega | exact isB_z | exact isB_o | exact iI_in' (by assumption) (by omega) (by omega) | exact cat_int _ | exact cat_ref _ | exact cat_null | decide) only [↓x_132_242, up1_same, up1_ne, up1_up1, us_0, us_1, us_2, us_3, us_4, us_5, us_6, us_7, us_8, us_9, us_10, us_11, rw_zero, rw_succ, Option.toList_some, Option.toList_none, List.cons_append, List.nil_append, cat_int, cat_ref, cat_null, iI_add, iI_sub, iI_mul, iI_neg, List.length_cons, List.length_nil, ↓reduceIte, va_rf_some]
  refine km_flips hM hS r2 z1b (fun g' A2 u1 u2 => ?_)
  simp (disch := first | assumption | omega | exact isB_z | exact isB_o | exact iI_in' (by assumption) (by omega) (by omega) | exact cat_int _ | exact cat_ref _ | exact cat_null | decide) only [↓x_132_245, up1_same, up1_ne, up1_up1, us_0, us_1, us_2, us_3, us_4, us_5, us_6, us_7, us_8, us_9, us_10, us_11, rw_zero, rw_succ, Option.toList_some, Option.toList_none, List.cons_append, List.nil_append, cat_int, cat_ref, cat_null, iI_add, iI_sub, iI_mul, iI_neg, List.length_cons, List.length_nil, ↓reduceIte, va_rf_some]
  exact hN _ A2 P' (lw_end hT hs q1 q2 u1 u2)
set_option maxHeartbeats 400000 in
theorem lw_clears {i L : Nat} (hK : exK t) (hM : mK t) (hsc : kd t 2 = 10 ∧ ln t 2 = L) (hi : i + 5 ≤ L) (hL : L ≤ 2560) (hI : lwI xs t V A P) (hN : ∀ (V' : Nat → Nat → Value) (A' : Nat → Nat → Int32) (P' : Nat → Nat → Option Nat), lwI xs t V' A' P' → Ev 40 132 655 [.ref 2, .ref 3, .ref 62, .int (iI i)] [] (t, V', A', P') Q) : Ev 40 132 250 [.ref 2, .ref 3, .ref 62, .int (iI i)] [] (t, V, A, P) Q := by
  obtain ⟨S, e, g, h, hv, hr, hT, hs⟩ := hI
  have hS := h.wfS
  obtain ⟨s1, s2⟩ := hsc
  have k3 := hK.1
  have k62 := hM.1
  simp (disch := first | assumption | omega | exact isB_z | exact isB_o | exact iI_in' (by assumption) (by omega) (by omega) | exact cat_int _ | exact cat_ref _ | exact cat_null | decide) only [↓x_132_250, up1_same, up1_ne, up1_up1, us_0, us_1, us_2, us_3, us_4, us_5, us_6, us_7, us_8, us_9, us_10, us_11, rw_zero, rw_succ, Option.toList_some, Option.toList_none, List.cons_append, List.nil_append, cat_int, cat_ref, cat_null, iI_add, iI_sub, iI_mul, iI_neg, List.length_cons, List.length_nil, ↓reduceIte, va_rf_some, iI_cl]
  simp (disch := first | assumption | omega | exact isB_z | exact isB_o | exact iI_in' (by assumption) (by omega) (by omega) | exact cat_int _ | exact cat_ref _ | exact cat_null | decide) only [↓x_132_251, up1_same, up1_ne, up1_up1, us_0, us_1, us_2, us_3, us_4, us_5, us_6, us_7, us_8, us_9, us_10, us_11, rw_zero, rw_succ, Option.toList_some, Option.toList_none, List.cons_append, List.nil_append, cat_int, cat_ref, cat_null, iI_add, iI_sub, iI_mul, iI_neg, List.length_cons, List.length_nil, ↓reduceIte, va_rf_some]
  refine k_clears hK h (fun V' A' P' e' q1 q2 => ?_)
  obtain ⟨r1, r2, r3⟩ := lw_mid q2 hv hr
  rw [r1]
  simp (disch := first | assumption | omega | exact isB_z | exact isB_o | exact iI_in' (by assumption) (by omega) (by omega) | exact cat_int _ | exact cat_ref _ | exact cat_null | decide) only [↓x_132_254, up1_same, up1_ne, up1_up1, us_0, us_1, us_2, us_3, us_4, us_5, us_6, us_7, us_8, us_9, us_10, us_11, rw_zero, rw_succ, Option.toList_some, Option.toList_none, List.cons_append, List.nil_append, cat_int, cat_ref, cat_null, iI_add, iI_sub, iI_mul, iI_neg, List.length_cons, List.length_nil, ↓reduceIte, va_rf_some, iI_cl, r3]
  simp (disch := first | assumption | omega | exact isB_z | exact isB_o | exact iI_in' (by assumption) (by omega) (by omega) | exact cat_int _ | exact cat_ref _ | exact cat_null | decide) only [↓x_132_255, up1_same, up1_ne, up1_up1, us_0, us_1, us_2, us_3, us_4, us_5, us_6, us_7, us_8, us_9, us_10, us_11, rw_zero, rw_succ, Option.toList_some, Option.toList_none, List.cons_append, List.nil_append, cat_int, cat_ref, cat_null, iI_add, iI_sub, iI_mul, iI_neg, List.length_cons, List.length_nil, ↓reduceIte, va_rf_some]
  refine km_clears hM hS r2 (fun g' A2 u1 u2 => ?_)
  simp (disch := first | assumption | omega | exact isB_z | exact isB_o | exact iI_in' (by assumption) (by omega) (by omega) | exact cat_int _ | exact cat_ref _ | exact cat_null | decide) only [↓x_132_258, up1_same, up1_ne, up1_up1, us_0, us_1, us_2, us_3, us_4, us_5, us_6, us_7, us_8, us_9, us_10, us_11, rw_zero, rw_succ, Option.toList_some, Option.toList_none, List.cons_append, List.nil_append, cat_int, cat_ref, cat_null, iI_add, iI_sub, iI_mul, iI_neg, List.length_cons, List.length_nil, ↓reduceIte, va_rf_some]
  exact hN _ A2 P' (lw_end hT hs q1 q2 u1 u2)
set_option maxHeartbeats 400000 in
theorem lw_undo {i L : Nat} (hK : exK t) (hM : mK t) (hsc : kd t 2 = 10 ∧ ln t 2 = L) (hi : i + 5 ≤ L) (hL : L ≤ 2560) (hI : lwI xs t V A P) (hN : ∀ (V' : Nat → Nat → Value) (A' : Nat → Nat → Int32) (P' : Nat → Nat → Option Nat), lwI xs t V' A' P' → Ev 40 132 655 [.ref 2, .ref 3, .ref 62, .int (iI i)] [] (t, V', A', P') Q) : Ev 40 132 263 [.ref 2, .ref 3, .ref 62, .int (iI i)] [] (t, V, A, P) Q := by
  obtain ⟨S, e, g, h, hv, hr, hT, hs⟩ := hI
  have hS := h.wfS
  obtain ⟨s1, s2⟩ := hsc
  have k3 := hK.1
  have k62 := hM.1
  simp (disch := first | assumption | omega | exact isB_z | exact isB_o | exact iI_in' (by assumption) (by omega) (by omega) | exact cat_int _ | exact cat_ref _ | exact cat_null | decide) only [↓x_132_263, up1_same, up1_ne, up1_up1, us_0, us_1, us_2, us_3, us_4, us_5, us_6, us_7, us_8, us_9, us_10, us_11, rw_zero, rw_succ, Option.toList_some, Option.toList_none, List.cons_append, List.nil_append, cat_int, cat_ref, cat_null, iI_add, iI_sub, iI_mul, iI_neg, List.length_cons, List.length_nil, ↓reduceIte, va_rf_some, iI_cl]
  simp (disch := first | assumption | omega | exact isB_z | exact isB_o | exact iI_in' (by assumption) (by omega) (by omega) | exact cat_int _ | exact cat_ref _ | exact cat_null | decide) only [↓x_132_264, up1_same, up1_ne, up1_up1, us_0, us_1, us_2, us_3, us_4, us_5, us_6, us_7, us_8, us_9, us_10, us_11, rw_zero, rw_succ, Option.toList_some, Option.toList_none, List.cons_append, List.nil_append, cat_int, cat_ref, cat_null, iI_add, iI_sub, iI_mul, iI_neg, List.length_cons, List.length_nil, ↓reduceIte, va_rf_some]
  refine k_undo hK h (fun V' A' P' e' q1 q2 => ?_)
  obtain ⟨r1, r2, r3⟩ := lw_mid q2 hv hr
  rw [r1]
  simp (disch := first | assumption | omega | exact isB_z | exact isB_o | exact iI_in' (by assumption) (by omega) (by omega) | exact cat_int _ | exact cat_ref _ | exact cat_null | decide) only [↓x_132_267, up1_same, up1_ne, up1_up1, us_0, us_1, us_2, us_3, us_4, us_5, us_6, us_7, us_8, us_9, us_10, us_11, rw_zero, rw_succ, Option.toList_some, Option.toList_none, List.cons_append, List.nil_append, cat_int, cat_ref, cat_null, iI_add, iI_sub, iI_mul, iI_neg, List.length_cons, List.length_nil, ↓reduceIte, va_rf_some, iI_cl, r3]
  simp (disch := first | assumption | omega | exact isB_z | exact isB_o | exact iI_in' (by assumption) (by omega) (by omega) | exact cat_int _ | exact cat_ref _ | exact cat_null | decide) only [↓x_132_268, up1_same, up1_ne, up1_up1, us_0, us_1, us_2, us_3, us_4, us_5, us_6, us_7, us_8, us_9, us_10, us_11, rw_zero, rw_succ, Option.toList_some, Option.toList_none, List.cons_append, List.nil_append, cat_int, cat_ref, cat_null, iI_add, iI_sub, iI_mul, iI_neg, List.length_cons, List.length_nil, ↓reduceIte, va_rf_some]
  refine km_undo hM hS r2 (fun g' A2 u1 u2 => ?_)
  simp (disch := first | assumption | omega | exact isB_z | exact isB_o | exact iI_in' (by assumption) (by omega) (by omega) | exact cat_int _ | exact cat_ref _ | exact cat_null | decide) only [↓x_132_271, up1_same, up1_ne, up1_up1, us_0, us_1, us_2, us_3, us_4, us_5, us_6, us_7, us_8, us_9, us_10, us_11, rw_zero, rw_succ, Option.toList_some, Option.toList_none, List.cons_append, List.nil_append, cat_int, cat_ref, cat_null, iI_add, iI_sub, iI_mul, iI_neg, List.length_cons, List.length_nil, ↓reduceIte, va_rf_some]
  exact hN _ A2 P' (lw_end hT hs q1 q2 u1 u2)
set_option maxHeartbeats 400000 in
theorem lw_form {i L : Nat} (hK : exK t) (hM : mK t) (hsc : kd t 2 = 10 ∧ ln t 2 = L) (hi : i + 5 ≤ L) (hL : L ≤ 2560) (hI : lwI xs t V A P) (hN : ∀ (V' : Nat → Nat → Value) (A' : Nat → Nat → Int32) (P' : Nat → Nat → Option Nat), lwI xs t V' A' P' → Ev 40 132 655 [.ref 2, .ref 3, .ref 62, .int (iI i)] [] (t, V', A', P') Q) : Ev 40 132 276 [.ref 2, .ref 3, .ref 62, .int (iI i)] [] (t, V, A, P) Q := by
  obtain ⟨S, e, g, h, hv, hr, hT, hs⟩ := hI
  have hS := h.wfS
  obtain ⟨s1, s2⟩ := hsc
  have k3 := hK.1
  have k62 := hM.1
  obtain ⟨z1, z1a, z1c, e1⟩ := iI_of (A 2 ((i : Int) + 1).toNat)
  have z1b : -2147483648 ≤ z1 ∧ z1 < 2147483648 := ⟨z1a, z1c⟩
  obtain ⟨z2, z2a, z2c, e2⟩ := iI_of (A 2 ((i : Int) + 2).toNat)
  have z2b : -2147483648 ≤ z2 ∧ z2 < 2147483648 := ⟨z2a, z2c⟩
  simp (disch := first | assumption | omega | exact isB_z | exact isB_o | exact iI_in' (by assumption) (by omega) (by omega) | exact cat_int _ | exact cat_ref _ | exact cat_null | decide) only [↓x_132_276, ↓x_132_277, ↓x_132_278, ↓x_132_279, ↓x_132_280, ↓x_132_281, ↓x_132_282, ↓x_132_283, ↓x_132_284, ↓x_132_285, ↓x_132_286, up1_same, up1_ne, up1_up1, us_0, us_1, us_2, us_3, us_4, us_5, us_6, us_7, us_8, us_9, us_10, us_11, rw_zero, rw_succ, Option.toList_some, Option.toList_none, List.cons_append, List.nil_append, cat_int, cat_ref, cat_null, iI_add, iI_sub, iI_mul, iI_neg, List.length_cons, List.length_nil, ↓reduceIte, va_rf_some, iI_cl, e1, e2]
  simp (disch := first | assumption | omega | exact isB_z | exact isB_o | exact iI_in' (by assumption) (by omega) (by omega) | exact cat_int _ | exact cat_ref _ | exact cat_null | decide) only [↓x_132_287, up1_same, up1_ne, up1_up1, us_0, us_1, us_2, us_3, us_4, us_5, us_6, us_7, us_8, us_9, us_10, us_11, rw_zero, rw_succ, Option.toList_some, Option.toList_none, List.cons_append, List.nil_append, cat_int, cat_ref, cat_null, iI_add, iI_sub, iI_mul, iI_neg, List.length_cons, List.length_nil, ↓reduceIte, va_rf_some]
  refine kq_form hK hT h z1b z2b (fun V' A' P' e' q1 q2 => ?_)
  obtain ⟨r1, r2, r3⟩ := lw_mid q2 hv hr
  rw [r1]
  simp (disch := first | assumption | omega | exact isB_z | exact isB_o | exact iI_in' (by assumption) (by omega) (by omega) | exact cat_int _ | exact cat_ref _ | exact cat_null | decide) only [↓x_132_290, ↓x_132_291, ↓x_132_292, ↓x_132_293, ↓x_132_294, ↓x_132_295, ↓x_132_296, ↓x_132_297, ↓x_132_298, ↓x_132_299, ↓x_132_300, up1_same, up1_ne, up1_up1, us_0, us_1, us_2, us_3, us_4, us_5, us_6, us_7, us_8, us_9, us_10, us_11, rw_zero, rw_succ, Option.toList_some, Option.toList_none, List.cons_append, List.nil_append, cat_int, cat_ref, cat_null, iI_add, iI_sub, iI_mul, iI_neg, List.length_cons, List.length_nil, ↓reduceIte, va_rf_some, iI_cl, r3, e1, e2]
  simp (disch := first | assumption | omega | exact isB_z | exact isB_o | exact iI_in' (by assumption) (by omega) (by omega) | exact cat_int _ | exact cat_ref _ | exact cat_null | decide) only [↓x_132_301, up1_same, up1_ne, up1_up1, us_0, us_1, us_2, us_3, us_4, us_5, us_6, us_7, us_8, us_9, us_10, us_11, rw_zero, rw_succ, Option.toList_some, Option.toList_none, List.cons_append, List.nil_append, cat_int, cat_ref, cat_null, iI_add, iI_sub, iI_mul, iI_neg, List.length_cons, List.length_nil, ↓reduceIte, va_rf_some]
  refine km_form hM r2 z1b z2b (fun g' A2 u1 u2 => ?_)
  simp (disch := first | assumption | omega | exact isB_z | exact isB_o | exact iI_in' (by assumption) (by omega) (by omega) | exact cat_int _ | exact cat_ref _ | exact cat_null | decide) only [↓x_132_304, up1_same, up1_ne, up1_up1, us_0, us_1, us_2, us_3, us_4, us_5, us_6, us_7, us_8, us_9, us_10, us_11, rw_zero, rw_succ, Option.toList_some, Option.toList_none, List.cons_append, List.nil_append, cat_int, cat_ref, cat_null, iI_add, iI_sub, iI_mul, iI_neg, List.length_cons, List.length_nil, ↓reduceIte, va_rf_some]
  exact hN _ A2 P' (lw_end hT hs q1 q2 u1 u2)
set_option maxHeartbeats 400000 in
theorem lw_bit {i L : Nat} (hK : exK t) (hM : mK t) (hsc : kd t 2 = 10 ∧ ln t 2 = L) (hi : i + 5 ≤ L) (hL : L ≤ 2560) (hI : lwI xs t V A P) (hN : ∀ (V' : Nat → Nat → Value) (A' : Nat → Nat → Int32) (P' : Nat → Nat → Option Nat), lwI xs t V' A' P' → Ev 40 132 655 [.ref 2, .ref 3, .ref 62, .int (iI i)] [] (t, V', A', P') Q) : Ev 40 132 309 [.ref 2, .ref 3, .ref 62, .int (iI i)] [] (t, V, A, P) Q := by
  obtain ⟨S, e, g, h, hv, hr, hT, hs⟩ := hI
  have hS := h.wfS
  obtain ⟨s1, s2⟩ := hsc
  have k3 := hK.1
  have k62 := hM.1
  obtain ⟨z1, z1a, z1c, e1⟩ := iI_of (A 2 ((i : Int) + 1).toNat)
  have z1b : -2147483648 ≤ z1 ∧ z1 < 2147483648 := ⟨z1a, z1c⟩
  simp (disch := first | assumption | omega | exact isB_z | exact isB_o | exact iI_in' (by assumption) (by omega) (by omega) | exact cat_int _ | exact cat_ref _ | exact cat_null | decide) only [↓x_132_309, ↓x_132_310, ↓x_132_311, ↓x_132_312, ↓x_132_313, ↓x_132_314, up1_same, up1_ne, up1_up1, us_0, us_1, us_2, us_3, us_4, us_5, us_6, us_7, us_8, us_9, us_10, us_11, rw_zero, rw_succ, Option.toList_some, Option.toList_none, List.cons_append, List.nil_append, cat_int, cat_ref, cat_null, iI_add, iI_sub, iI_mul, iI_neg, List.length_cons, List.length_nil, ↓reduceIte, va_rf_some, iI_cl, e1]
  simp (disch := first | assumption | omega | exact isB_z | exact isB_o | exact iI_in' (by assumption) (by omega) (by omega) | exact cat_int _ | exact cat_ref _ | exact cat_null | decide) only [↓x_132_315, up1_same, up1_ne, up1_up1, us_0, us_1, us_2, us_3, us_4, us_5, us_6, us_7, us_8, us_9, us_10, us_11, rw_zero, rw_succ, Option.toList_some, Option.toList_none, List.cons_append, List.nil_append, cat_int, cat_ref, cat_null, iI_add, iI_sub, iI_mul, iI_neg, List.length_cons, List.length_nil, ↓reduceIte, va_rf_some]
  refine kq_bit hK hT h z1b (fun V' A' P' e' q1 q2 => ?_)
  obtain ⟨r1, r2, r3⟩ := lw_mid q2 hv hr
  rw [r1]
  simp (disch := first | assumption | omega | exact isB_z | exact isB_o | exact iI_in' (by assumption) (by omega) (by omega) | exact cat_int _ | exact cat_ref _ | exact cat_null | decide) only [↓x_132_318, ↓x_132_319, ↓x_132_320, ↓x_132_321, ↓x_132_322, ↓x_132_323, up1_same, up1_ne, up1_up1, us_0, us_1, us_2, us_3, us_4, us_5, us_6, us_7, us_8, us_9, us_10, us_11, rw_zero, rw_succ, Option.toList_some, Option.toList_none, List.cons_append, List.nil_append, cat_int, cat_ref, cat_null, iI_add, iI_sub, iI_mul, iI_neg, List.length_cons, List.length_nil, ↓reduceIte, va_rf_some, iI_cl, r3, e1]
  simp (disch := first | assumption | omega | exact isB_z | exact isB_o | exact iI_in' (by assumption) (by omega) (by omega) | exact cat_int _ | exact cat_ref _ | exact cat_null | decide) only [↓x_132_324, up1_same, up1_ne, up1_up1, us_0, us_1, us_2, us_3, us_4, us_5, us_6, us_7, us_8, us_9, us_10, us_11, rw_zero, rw_succ, Option.toList_some, Option.toList_none, List.cons_append, List.nil_append, cat_int, cat_ref, cat_null, iI_add, iI_sub, iI_mul, iI_neg, List.length_cons, List.length_nil, ↓reduceIte, va_rf_some]
  refine km_bit hM hS r2 z1b (fun g' A2 u1 u2 => ?_)
  simp (disch := first | assumption | omega | exact isB_z | exact isB_o | exact iI_in' (by assumption) (by omega) (by omega) | exact cat_int _ | exact cat_ref _ | exact cat_null | decide) only [↓x_132_327, up1_same, up1_ne, up1_up1, us_0, us_1, us_2, us_3, us_4, us_5, us_6, us_7, us_8, us_9, us_10, us_11, rw_zero, rw_succ, Option.toList_some, Option.toList_none, List.cons_append, List.nil_append, cat_int, cat_ref, cat_null, iI_add, iI_sub, iI_mul, iI_neg, List.length_cons, List.length_nil, ↓reduceIte, va_rf_some]
  exact hN _ A2 P' (lw_end hT hs q1 q2 u1 u2)
set_option maxHeartbeats 400000 in
theorem lw_word {i L : Nat} (hK : exK t) (hM : mK t) (hsc : kd t 2 = 10 ∧ ln t 2 = L) (hi : i + 5 ≤ L) (hL : L ≤ 2560) (hI : lwI xs t V A P) (hN : ∀ (V' : Nat → Nat → Value) (A' : Nat → Nat → Int32) (P' : Nat → Nat → Option Nat), lwI xs t V' A' P' → Ev 40 132 655 [.ref 2, .ref 3, .ref 62, .int (iI i)] [] (t, V', A', P') Q) : Ev 40 132 332 [.ref 2, .ref 3, .ref 62, .int (iI i)] [] (t, V, A, P) Q := by
  obtain ⟨S, e, g, h, hv, hr, hT, hs⟩ := hI
  have hS := h.wfS
  obtain ⟨s1, s2⟩ := hsc
  have k3 := hK.1
  have k62 := hM.1
  obtain ⟨z1, z1a, z1c, e1⟩ := iI_of (A 2 ((i : Int) + 1).toNat)
  have z1b : -2147483648 ≤ z1 ∧ z1 < 2147483648 := ⟨z1a, z1c⟩
  simp (disch := first | assumption | omega | exact isB_z | exact isB_o | exact iI_in' (by assumption) (by omega) (by omega) | exact cat_int _ | exact cat_ref _ | exact cat_null | decide) only [↓x_132_332, ↓x_132_333, ↓x_132_334, ↓x_132_335, ↓x_132_336, ↓x_132_337, up1_same, up1_ne, up1_up1, us_0, us_1, us_2, us_3, us_4, us_5, us_6, us_7, us_8, us_9, us_10, us_11, rw_zero, rw_succ, Option.toList_some, Option.toList_none, List.cons_append, List.nil_append, cat_int, cat_ref, cat_null, iI_add, iI_sub, iI_mul, iI_neg, List.length_cons, List.length_nil, ↓reduceIte, va_rf_some, iI_cl, e1]
  simp (disch := first | assumption | omega | exact isB_z | exact isB_o | exact iI_in' (by assumption) (by omega) (by omega) | exact cat_int _ | exact cat_ref _ | exact cat_null | decide) only [↓x_132_338, up1_same, up1_ne, up1_up1, us_0, us_1, us_2, us_3, us_4, us_5, us_6, us_7, us_8, us_9, us_10, us_11, rw_zero, rw_succ, Option.toList_some, Option.toList_none, List.cons_append, List.nil_append, cat_int, cat_ref, cat_null, iI_add, iI_sub, iI_mul, iI_neg, List.length_cons, List.length_nil, ↓reduceIte, va_rf_some]
  refine kq_word hK hT h z1b (fun V' A' P' e' q1 q2 => ?_)
  obtain ⟨r1, r2, r3⟩ := lw_mid q2 hv hr
  rw [r1]
  simp (disch := first | assumption | omega | exact isB_z | exact isB_o | exact iI_in' (by assumption) (by omega) (by omega) | exact cat_int _ | exact cat_ref _ | exact cat_null | decide) only [↓x_132_341, ↓x_132_342, ↓x_132_343, ↓x_132_344, ↓x_132_345, ↓x_132_346, up1_same, up1_ne, up1_up1, us_0, us_1, us_2, us_3, us_4, us_5, us_6, us_7, us_8, us_9, us_10, us_11, rw_zero, rw_succ, Option.toList_some, Option.toList_none, List.cons_append, List.nil_append, cat_int, cat_ref, cat_null, iI_add, iI_sub, iI_mul, iI_neg, List.length_cons, List.length_nil, ↓reduceIte, va_rf_some, iI_cl, r3, e1]
  simp (disch := first | assumption | omega | exact isB_z | exact isB_o | exact iI_in' (by assumption) (by omega) (by omega) | exact cat_int _ | exact cat_ref _ | exact cat_null | decide) only [↓x_132_347, up1_same, up1_ne, up1_up1, us_0, us_1, us_2, us_3, us_4, us_5, us_6, us_7, us_8, us_9, us_10, us_11, rw_zero, rw_succ, Option.toList_some, Option.toList_none, List.cons_append, List.nil_append, cat_int, cat_ref, cat_null, iI_add, iI_sub, iI_mul, iI_neg, List.length_cons, List.length_nil, ↓reduceIte, va_rf_some]
  refine km_word hM hS r2 z1b (fun g' A2 u1 u2 => ?_)
  simp (disch := first | assumption | omega | exact isB_z | exact isB_o | exact iI_in' (by assumption) (by omega) (by omega) | exact cat_int _ | exact cat_ref _ | exact cat_null | decide) only [↓x_132_350, up1_same, up1_ne, up1_up1, us_0, us_1, us_2, us_3, us_4, us_5, us_6, us_7, us_8, us_9, us_10, us_11, rw_zero, rw_succ, Option.toList_some, Option.toList_none, List.cons_append, List.nil_append, cat_int, cat_ref, cat_null, iI_add, iI_sub, iI_mul, iI_neg, List.length_cons, List.length_nil, ↓reduceIte, va_rf_some]
  exact hN _ A2 P' (lw_end hT hs q1 q2 u1 u2)
set_option maxHeartbeats 400000 in
theorem lw_recent {i L : Nat} (hK : exK t) (hM : mK t) (hsc : kd t 2 = 10 ∧ ln t 2 = L) (hi : i + 5 ≤ L) (hL : L ≤ 2560) (hI : lwI xs t V A P) (hN : ∀ (V' : Nat → Nat → Value) (A' : Nat → Nat → Int32) (P' : Nat → Nat → Option Nat), lwI xs t V' A' P' → Ev 40 132 655 [.ref 2, .ref 3, .ref 62, .int (iI i)] [] (t, V', A', P') Q) : Ev 40 132 355 [.ref 2, .ref 3, .ref 62, .int (iI i)] [] (t, V, A, P) Q := by
  obtain ⟨S, e, g, h, hv, hr, hT, hs⟩ := hI
  have hS := h.wfS
  obtain ⟨s1, s2⟩ := hsc
  have k3 := hK.1
  have k62 := hM.1
  obtain ⟨z1, z1a, z1c, e1⟩ := iI_of (A 2 ((i : Int) + 1).toNat)
  have z1b : -2147483648 ≤ z1 ∧ z1 < 2147483648 := ⟨z1a, z1c⟩
  simp (disch := first | assumption | omega | exact isB_z | exact isB_o | exact iI_in' (by assumption) (by omega) (by omega) | exact cat_int _ | exact cat_ref _ | exact cat_null | decide) only [↓x_132_355, ↓x_132_356, ↓x_132_357, ↓x_132_358, ↓x_132_359, ↓x_132_360, up1_same, up1_ne, up1_up1, us_0, us_1, us_2, us_3, us_4, us_5, us_6, us_7, us_8, us_9, us_10, us_11, rw_zero, rw_succ, Option.toList_some, Option.toList_none, List.cons_append, List.nil_append, cat_int, cat_ref, cat_null, iI_add, iI_sub, iI_mul, iI_neg, List.length_cons, List.length_nil, ↓reduceIte, va_rf_some, iI_cl, e1]
  simp (disch := first | assumption | omega | exact isB_z | exact isB_o | exact iI_in' (by assumption) (by omega) (by omega) | exact cat_int _ | exact cat_ref _ | exact cat_null | decide) only [↓x_132_361, up1_same, up1_ne, up1_up1, us_0, us_1, us_2, us_3, us_4, us_5, us_6, us_7, us_8, us_9, us_10, us_11, rw_zero, rw_succ, Option.toList_some, Option.toList_none, List.cons_append, List.nil_append, cat_int, cat_ref, cat_null, iI_add, iI_sub, iI_mul, iI_neg, List.length_cons, List.length_nil, ↓reduceIte, va_rf_some]
  refine kq_recent hK hT h z1b (fun V' A' P' e' q1 q2 => ?_)
  obtain ⟨r1, r2, r3⟩ := lw_mid q2 hv hr
  rw [r1]
  simp (disch := first | assumption | omega | exact isB_z | exact isB_o | exact iI_in' (by assumption) (by omega) (by omega) | exact cat_int _ | exact cat_ref _ | exact cat_null | decide) only [↓x_132_364, ↓x_132_365, ↓x_132_366, ↓x_132_367, ↓x_132_368, ↓x_132_369, up1_same, up1_ne, up1_up1, us_0, us_1, us_2, us_3, us_4, us_5, us_6, us_7, us_8, us_9, us_10, us_11, rw_zero, rw_succ, Option.toList_some, Option.toList_none, List.cons_append, List.nil_append, cat_int, cat_ref, cat_null, iI_add, iI_sub, iI_mul, iI_neg, List.length_cons, List.length_nil, ↓reduceIte, va_rf_some, iI_cl, r3, e1]
  simp (disch := first | assumption | omega | exact isB_z | exact isB_o | exact iI_in' (by assumption) (by omega) (by omega) | exact cat_int _ | exact cat_ref _ | exact cat_null | decide) only [↓x_132_370, up1_same, up1_ne, up1_up1, us_0, us_1, us_2, us_3, us_4, us_5, us_6, us_7, us_8, us_9, us_10, us_11, rw_zero, rw_succ, Option.toList_some, Option.toList_none, List.cons_append, List.nil_append, cat_int, cat_ref, cat_null, iI_add, iI_sub, iI_mul, iI_neg, List.length_cons, List.length_nil, ↓reduceIte, va_rf_some]
  refine km_recent hM hS r2 z1b (fun g' A2 u1 u2 => ?_)
  simp (disch := first | assumption | omega | exact isB_z | exact isB_o | exact iI_in' (by assumption) (by omega) (by omega) | exact cat_int _ | exact cat_ref _ | exact cat_null | decide) only [↓x_132_373, up1_same, up1_ne, up1_up1, us_0, us_1, us_2, us_3, us_4, us_5, us_6, us_7, us_8, us_9, us_10, us_11, rw_zero, rw_succ, Option.toList_some, Option.toList_none, List.cons_append, List.nil_append, cat_int, cat_ref, cat_null, iI_add, iI_sub, iI_mul, iI_neg, List.length_cons, List.length_nil, ↓reduceIte, va_rf_some]
  exact hN _ A2 P' (lw_end hT hs q1 q2 u1 u2)
set_option maxHeartbeats 400000 in
theorem lw_piece {i L : Nat} (hK : exK t) (hM : mK t) (hsc : kd t 2 = 10 ∧ ln t 2 = L) (hi : i + 5 ≤ L) (hL : L ≤ 2560) (hI : lwI xs t V A P) (hN : ∀ (V' : Nat → Nat → Value) (A' : Nat → Nat → Int32) (P' : Nat → Nat → Option Nat), lwI xs t V' A' P' → Ev 40 132 655 [.ref 2, .ref 3, .ref 62, .int (iI i)] [] (t, V', A', P') Q) : Ev 40 132 378 [.ref 2, .ref 3, .ref 62, .int (iI i)] [] (t, V, A, P) Q := by
  obtain ⟨S, e, g, h, hv, hr, hT, hs⟩ := hI
  have hS := h.wfS
  obtain ⟨s1, s2⟩ := hsc
  have k3 := hK.1
  have k62 := hM.1
  obtain ⟨z1, z1a, z1c, e1⟩ := iI_of (A 2 ((i : Int) + 1).toNat)
  have z1b : -2147483648 ≤ z1 ∧ z1 < 2147483648 := ⟨z1a, z1c⟩
  obtain ⟨z2, z2a, z2c, e2⟩ := iI_of (A 2 ((i : Int) + 2).toNat)
  have z2b : -2147483648 ≤ z2 ∧ z2 < 2147483648 := ⟨z2a, z2c⟩
  obtain ⟨z3, z3a, z3c, e3⟩ := iI_of (A 2 ((i : Int) + 3).toNat)
  have z3b : -2147483648 ≤ z3 ∧ z3 < 2147483648 := ⟨z3a, z3c⟩
  obtain ⟨z4, z4a, z4c, e4⟩ := iI_of (A 2 ((i : Int) + 4).toNat)
  have z4b : -2147483648 ≤ z4 ∧ z4 < 2147483648 := ⟨z4a, z4c⟩
  simp (disch := first | assumption | omega | exact isB_z | exact isB_o | exact iI_in' (by assumption) (by omega) (by omega) | exact cat_int _ | exact cat_ref _ | exact cat_null | decide) only [↓x_132_378, ↓x_132_379, ↓x_132_380, ↓x_132_381, ↓x_132_382, ↓x_132_383, ↓x_132_384, ↓x_132_385, ↓x_132_386, ↓x_132_387, ↓x_132_388, ↓x_132_389, ↓x_132_390, ↓x_132_391, ↓x_132_392, ↓x_132_393, ↓x_132_394, ↓x_132_395, ↓x_132_396, ↓x_132_397, ↓x_132_398, up1_same, up1_ne, up1_up1, us_0, us_1, us_2, us_3, us_4, us_5, us_6, us_7, us_8, us_9, us_10, us_11, rw_zero, rw_succ, Option.toList_some, Option.toList_none, List.cons_append, List.nil_append, cat_int, cat_ref, cat_null, iI_add, iI_sub, iI_mul, iI_neg, List.length_cons, List.length_nil, ↓reduceIte, va_rf_some, iI_cl, e1, e2, e3, e4]
  simp (disch := first | assumption | omega | exact isB_z | exact isB_o | exact iI_in' (by assumption) (by omega) (by omega) | exact cat_int _ | exact cat_ref _ | exact cat_null | decide) only [↓x_132_399, up1_same, up1_ne, up1_up1, us_0, us_1, us_2, us_3, us_4, us_5, us_6, us_7, us_8, us_9, us_10, us_11, rw_zero, rw_succ, Option.toList_some, Option.toList_none, List.cons_append, List.nil_append, cat_int, cat_ref, cat_null, iI_add, iI_sub, iI_mul, iI_neg, List.length_cons, List.length_nil, ↓reduceIte, va_rf_some]
  refine kq_piece hK hT h z1b z2b z3b z4b (fun V' A' P' e' q1 q2 => ?_)
  obtain ⟨r1, r2, r3⟩ := lw_mid q2 hv hr
  rw [r1]
  simp (disch := first | assumption | omega | exact isB_z | exact isB_o | exact iI_in' (by assumption) (by omega) (by omega) | exact cat_int _ | exact cat_ref _ | exact cat_null | decide) only [↓x_132_402, ↓x_132_403, ↓x_132_404, ↓x_132_405, ↓x_132_406, ↓x_132_407, ↓x_132_408, ↓x_132_409, ↓x_132_410, ↓x_132_411, ↓x_132_412, ↓x_132_413, ↓x_132_414, ↓x_132_415, ↓x_132_416, ↓x_132_417, ↓x_132_418, ↓x_132_419, ↓x_132_420, ↓x_132_421, ↓x_132_422, up1_same, up1_ne, up1_up1, us_0, us_1, us_2, us_3, us_4, us_5, us_6, us_7, us_8, us_9, us_10, us_11, rw_zero, rw_succ, Option.toList_some, Option.toList_none, List.cons_append, List.nil_append, cat_int, cat_ref, cat_null, iI_add, iI_sub, iI_mul, iI_neg, List.length_cons, List.length_nil, ↓reduceIte, va_rf_some, iI_cl, r3, e1, e2, e3, e4]
  simp (disch := first | assumption | omega | exact isB_z | exact isB_o | exact iI_in' (by assumption) (by omega) (by omega) | exact cat_int _ | exact cat_ref _ | exact cat_null | decide) only [↓x_132_423, up1_same, up1_ne, up1_up1, us_0, us_1, us_2, us_3, us_4, us_5, us_6, us_7, us_8, us_9, us_10, us_11, rw_zero, rw_succ, Option.toList_some, Option.toList_none, List.cons_append, List.nil_append, cat_int, cat_ref, cat_null, iI_add, iI_sub, iI_mul, iI_neg, List.length_cons, List.length_nil, ↓reduceIte, va_rf_some]
  refine km_piece hM hS r2 z1b z2b z3b z4b (fun g' A2 u1 u2 => ?_)
  simp (disch := first | assumption | omega | exact isB_z | exact isB_o | exact iI_in' (by assumption) (by omega) (by omega) | exact cat_int _ | exact cat_ref _ | exact cat_null | decide) only [↓x_132_426, up1_same, up1_ne, up1_up1, us_0, us_1, us_2, us_3, us_4, us_5, us_6, us_7, us_8, us_9, us_10, us_11, rw_zero, rw_succ, Option.toList_some, Option.toList_none, List.cons_append, List.nil_append, cat_int, cat_ref, cat_null, iI_add, iI_sub, iI_mul, iI_neg, List.length_cons, List.length_nil, ↓reduceIte, va_rf_some]
  exact hN _ A2 P' (lw_end hT hs q1 q2 u1 u2)
set_option maxHeartbeats 400000 in
theorem lw_read {i L : Nat} (hK : exK t) (hM : mK t) (hsc : kd t 2 = 10 ∧ ln t 2 = L) (hi : i + 5 ≤ L) (hL : L ≤ 2560) (hI : lwI xs t V A P) (hN : ∀ (V' : Nat → Nat → Value) (A' : Nat → Nat → Int32) (P' : Nat → Nat → Option Nat), lwI xs t V' A' P' → Ev 40 132 655 [.ref 2, .ref 3, .ref 62, .int (iI i)] [] (t, V', A', P') Q) : Ev 40 132 431 [.ref 2, .ref 3, .ref 62, .int (iI i)] [] (t, V, A, P) Q := by
  obtain ⟨S, e, g, h, hv, hr, hT, hs⟩ := hI
  have hS := h.wfS
  obtain ⟨s1, s2⟩ := hsc
  have k3 := hK.1
  have k62 := hM.1
  obtain ⟨z1, z1a, z1c, e1⟩ := iI_of (A 2 ((i : Int) + 1).toNat)
  have z1b : -2147483648 ≤ z1 ∧ z1 < 2147483648 := ⟨z1a, z1c⟩
  obtain ⟨z2, z2a, z2c, e2⟩ := iI_of (A 2 ((i : Int) + 2).toNat)
  have z2b : -2147483648 ≤ z2 ∧ z2 < 2147483648 := ⟨z2a, z2c⟩
  obtain ⟨z3, z3a, z3c, e3⟩ := iI_of (A 2 ((i : Int) + 3).toNat)
  have z3b : -2147483648 ≤ z3 ∧ z3 < 2147483648 := ⟨z3a, z3c⟩
  simp (disch := first | assumption | omega | exact isB_z | exact isB_o | exact iI_in' (by assumption) (by omega) (by omega) | exact cat_int _ | exact cat_ref _ | exact cat_null | decide) only [↓x_132_431, ↓x_132_432, ↓x_132_433, ↓x_132_434, ↓x_132_435, ↓x_132_436, ↓x_132_437, ↓x_132_438, ↓x_132_439, ↓x_132_440, ↓x_132_441, ↓x_132_442, ↓x_132_443, ↓x_132_444, ↓x_132_445, ↓x_132_446, up1_same, up1_ne, up1_up1, us_0, us_1, us_2, us_3, us_4, us_5, us_6, us_7, us_8, us_9, us_10, us_11, rw_zero, rw_succ, Option.toList_some, Option.toList_none, List.cons_append, List.nil_append, cat_int, cat_ref, cat_null, iI_add, iI_sub, iI_mul, iI_neg, List.length_cons, List.length_nil, ↓reduceIte, va_rf_some, iI_cl, e1, e2, e3]
  simp (disch := first | assumption | omega | exact isB_z | exact isB_o | exact iI_in' (by assumption) (by omega) (by omega) | exact cat_int _ | exact cat_ref _ | exact cat_null | decide) only [↓x_132_447, up1_same, up1_ne, up1_up1, us_0, us_1, us_2, us_3, us_4, us_5, us_6, us_7, us_8, us_9, us_10, us_11, rw_zero, rw_succ, Option.toList_some, Option.toList_none, List.cons_append, List.nil_append, cat_int, cat_ref, cat_null, iI_add, iI_sub, iI_mul, iI_neg, List.length_cons, List.length_nil, ↓reduceIte, va_rf_some]
  refine kq_read hK hT h z1b z2b z3b (fun V' A' P' e' q1 q2 => ?_)
  obtain ⟨r1, r2, r3⟩ := lw_mid q2 hv hr
  rw [r1]
  simp (disch := first | assumption | omega | exact isB_z | exact isB_o | exact iI_in' (by assumption) (by omega) (by omega) | exact cat_int _ | exact cat_ref _ | exact cat_null | decide) only [↓x_132_450, ↓x_132_451, ↓x_132_452, ↓x_132_453, ↓x_132_454, ↓x_132_455, ↓x_132_456, ↓x_132_457, ↓x_132_458, ↓x_132_459, ↓x_132_460, ↓x_132_461, ↓x_132_462, ↓x_132_463, ↓x_132_464, ↓x_132_465, up1_same, up1_ne, up1_up1, us_0, us_1, us_2, us_3, us_4, us_5, us_6, us_7, us_8, us_9, us_10, us_11, rw_zero, rw_succ, Option.toList_some, Option.toList_none, List.cons_append, List.nil_append, cat_int, cat_ref, cat_null, iI_add, iI_sub, iI_mul, iI_neg, List.length_cons, List.length_nil, ↓reduceIte, va_rf_some, iI_cl, r3, e1, e2, e3]
  simp (disch := first | assumption | omega | exact isB_z | exact isB_o | exact iI_in' (by assumption) (by omega) (by omega) | exact cat_int _ | exact cat_ref _ | exact cat_null | decide) only [↓x_132_466, up1_same, up1_ne, up1_up1, us_0, us_1, us_2, us_3, us_4, us_5, us_6, us_7, us_8, us_9, us_10, us_11, rw_zero, rw_succ, Option.toList_some, Option.toList_none, List.cons_append, List.nil_append, cat_int, cat_ref, cat_null, iI_add, iI_sub, iI_mul, iI_neg, List.length_cons, List.length_nil, ↓reduceIte, va_rf_some]
  refine km_read hM hS r2 z1b z2b z3b (fun g' A2 u1 u2 => ?_)
  simp (disch := first | assumption | omega | exact isB_z | exact isB_o | exact iI_in' (by assumption) (by omega) (by omega) | exact cat_int _ | exact cat_ref _ | exact cat_null | decide) only [↓x_132_469, up1_same, up1_ne, up1_up1, us_0, us_1, us_2, us_3, us_4, us_5, us_6, us_7, us_8, us_9, us_10, us_11, rw_zero, rw_succ, Option.toList_some, Option.toList_none, List.cons_append, List.nil_append, cat_int, cat_ref, cat_null, iI_add, iI_sub, iI_mul, iI_neg, List.length_cons, List.length_nil, ↓reduceIte, va_rf_some]
  exact hN _ A2 P' (lw_end hT hs q1 q2 u1 u2)
set_option maxHeartbeats 400000 in
theorem lw_cuts {i L : Nat} (hK : exK t) (hM : mK t) (hsc : kd t 2 = 10 ∧ ln t 2 = L) (hi : i + 5 ≤ L) (hL : L ≤ 2560) (hI : lwI xs t V A P) (hN : ∀ (V' : Nat → Nat → Value) (A' : Nat → Nat → Int32) (P' : Nat → Nat → Option Nat), lwI xs t V' A' P' → Ev 40 132 655 [.ref 2, .ref 3, .ref 62, .int (iI i)] [] (t, V', A', P') Q) : Ev 40 132 474 [.ref 2, .ref 3, .ref 62, .int (iI i)] [] (t, V, A, P) Q := by
  obtain ⟨S, e, g, h, hv, hr, hT, hs⟩ := hI
  have hS := h.wfS
  obtain ⟨s1, s2⟩ := hsc
  have k3 := hK.1
  have k62 := hM.1
  obtain ⟨z1, z1a, z1c, e1⟩ := iI_of (A 2 ((i : Int) + 1).toNat)
  have z1b : -2147483648 ≤ z1 ∧ z1 < 2147483648 := ⟨z1a, z1c⟩
  simp (disch := first | assumption | omega | exact isB_z | exact isB_o | exact iI_in' (by assumption) (by omega) (by omega) | exact cat_int _ | exact cat_ref _ | exact cat_null | decide) only [↓x_132_474, ↓x_132_475, ↓x_132_476, ↓x_132_477, ↓x_132_478, ↓x_132_479, up1_same, up1_ne, up1_up1, us_0, us_1, us_2, us_3, us_4, us_5, us_6, us_7, us_8, us_9, us_10, us_11, rw_zero, rw_succ, Option.toList_some, Option.toList_none, List.cons_append, List.nil_append, cat_int, cat_ref, cat_null, iI_add, iI_sub, iI_mul, iI_neg, List.length_cons, List.length_nil, ↓reduceIte, va_rf_some, iI_cl, e1]
  simp (disch := first | assumption | omega | exact isB_z | exact isB_o | exact iI_in' (by assumption) (by omega) (by omega) | exact cat_int _ | exact cat_ref _ | exact cat_null | decide) only [↓x_132_480, up1_same, up1_ne, up1_up1, us_0, us_1, us_2, us_3, us_4, us_5, us_6, us_7, us_8, us_9, us_10, us_11, rw_zero, rw_succ, Option.toList_some, Option.toList_none, List.cons_append, List.nil_append, cat_int, cat_ref, cat_null, iI_add, iI_sub, iI_mul, iI_neg, List.length_cons, List.length_nil, ↓reduceIte, va_rf_some]
  refine kq_cuts hK hT h z1b (fun V' A' P' e' q1 q2 => ?_)
  obtain ⟨r1, r2, r3⟩ := lw_mid q2 hv hr
  rw [r1]
  simp (disch := first | assumption | omega | exact isB_z | exact isB_o | exact iI_in' (by assumption) (by omega) (by omega) | exact cat_int _ | exact cat_ref _ | exact cat_null | decide) only [↓x_132_483, ↓x_132_484, ↓x_132_485, ↓x_132_486, ↓x_132_487, ↓x_132_488, up1_same, up1_ne, up1_up1, us_0, us_1, us_2, us_3, us_4, us_5, us_6, us_7, us_8, us_9, us_10, us_11, rw_zero, rw_succ, Option.toList_some, Option.toList_none, List.cons_append, List.nil_append, cat_int, cat_ref, cat_null, iI_add, iI_sub, iI_mul, iI_neg, List.length_cons, List.length_nil, ↓reduceIte, va_rf_some, iI_cl, r3, e1]
  simp (disch := first | assumption | omega | exact isB_z | exact isB_o | exact iI_in' (by assumption) (by omega) (by omega) | exact cat_int _ | exact cat_ref _ | exact cat_null | decide) only [↓x_132_489, up1_same, up1_ne, up1_up1, us_0, us_1, us_2, us_3, us_4, us_5, us_6, us_7, us_8, us_9, us_10, us_11, rw_zero, rw_succ, Option.toList_some, Option.toList_none, List.cons_append, List.nil_append, cat_int, cat_ref, cat_null, iI_add, iI_sub, iI_mul, iI_neg, List.length_cons, List.length_nil, ↓reduceIte, va_rf_some]
  refine km_cuts hM hS r2 z1b (fun g' A2 u1 u2 => ?_)
  simp (disch := first | assumption | omega | exact isB_z | exact isB_o | exact iI_in' (by assumption) (by omega) (by omega) | exact cat_int _ | exact cat_ref _ | exact cat_null | decide) only [↓x_132_492, up1_same, up1_ne, up1_up1, us_0, us_1, us_2, us_3, us_4, us_5, us_6, us_7, us_8, us_9, us_10, us_11, rw_zero, rw_succ, Option.toList_some, Option.toList_none, List.cons_append, List.nil_append, cat_int, cat_ref, cat_null, iI_add, iI_sub, iI_mul, iI_neg, List.length_cons, List.length_nil, ↓reduceIte, va_rf_some]
  exact hN _ A2 P' (lw_end hT hs q1 q2 u1 u2)
set_option maxHeartbeats 400000 in
theorem lw_level {i L : Nat} (hK : exK t) (hM : mK t) (hsc : kd t 2 = 10 ∧ ln t 2 = L) (hi : i + 5 ≤ L) (hL : L ≤ 2560) (hI : lwI xs t V A P) (hN : ∀ (V' : Nat → Nat → Value) (A' : Nat → Nat → Int32) (P' : Nat → Nat → Option Nat), lwI xs t V' A' P' → Ev 40 132 655 [.ref 2, .ref 3, .ref 62, .int (iI i)] [] (t, V', A', P') Q) : Ev 40 132 497 [.ref 2, .ref 3, .ref 62, .int (iI i)] [] (t, V, A, P) Q := by
  obtain ⟨S, e, g, h, hv, hr, hT, hs⟩ := hI
  have hS := h.wfS
  obtain ⟨s1, s2⟩ := hsc
  have k3 := hK.1
  have k62 := hM.1
  obtain ⟨z1, z1a, z1c, e1⟩ := iI_of (A 2 ((i : Int) + 1).toNat)
  have z1b : -2147483648 ≤ z1 ∧ z1 < 2147483648 := ⟨z1a, z1c⟩
  obtain ⟨z2, z2a, z2c, e2⟩ := iI_of (A 2 ((i : Int) + 2).toNat)
  have z2b : -2147483648 ≤ z2 ∧ z2 < 2147483648 := ⟨z2a, z2c⟩
  simp (disch := first | assumption | omega | exact isB_z | exact isB_o | exact iI_in' (by assumption) (by omega) (by omega) | exact cat_int _ | exact cat_ref _ | exact cat_null | decide) only [↓x_132_497, ↓x_132_498, ↓x_132_499, ↓x_132_500, ↓x_132_501, ↓x_132_502, ↓x_132_503, ↓x_132_504, ↓x_132_505, ↓x_132_506, ↓x_132_507, up1_same, up1_ne, up1_up1, us_0, us_1, us_2, us_3, us_4, us_5, us_6, us_7, us_8, us_9, us_10, us_11, rw_zero, rw_succ, Option.toList_some, Option.toList_none, List.cons_append, List.nil_append, cat_int, cat_ref, cat_null, iI_add, iI_sub, iI_mul, iI_neg, List.length_cons, List.length_nil, ↓reduceIte, va_rf_some, iI_cl, e1, e2]
  simp (disch := first | assumption | omega | exact isB_z | exact isB_o | exact iI_in' (by assumption) (by omega) (by omega) | exact cat_int _ | exact cat_ref _ | exact cat_null | decide) only [↓x_132_508, up1_same, up1_ne, up1_up1, us_0, us_1, us_2, us_3, us_4, us_5, us_6, us_7, us_8, us_9, us_10, us_11, rw_zero, rw_succ, Option.toList_some, Option.toList_none, List.cons_append, List.nil_append, cat_int, cat_ref, cat_null, iI_add, iI_sub, iI_mul, iI_neg, List.length_cons, List.length_nil, ↓reduceIte, va_rf_some]
  refine kq_level hK hT h z1b z2b (fun V' A' P' e' q1 q2 => ?_)
  obtain ⟨r1, r2, r3⟩ := lw_mid q2 hv hr
  rw [r1]
  simp (disch := first | assumption | omega | exact isB_z | exact isB_o | exact iI_in' (by assumption) (by omega) (by omega) | exact cat_int _ | exact cat_ref _ | exact cat_null | decide) only [↓x_132_511, ↓x_132_512, ↓x_132_513, ↓x_132_514, ↓x_132_515, ↓x_132_516, ↓x_132_517, ↓x_132_518, ↓x_132_519, ↓x_132_520, ↓x_132_521, up1_same, up1_ne, up1_up1, us_0, us_1, us_2, us_3, us_4, us_5, us_6, us_7, us_8, us_9, us_10, us_11, rw_zero, rw_succ, Option.toList_some, Option.toList_none, List.cons_append, List.nil_append, cat_int, cat_ref, cat_null, iI_add, iI_sub, iI_mul, iI_neg, List.length_cons, List.length_nil, ↓reduceIte, va_rf_some, iI_cl, r3, e1, e2]
  simp (disch := first | assumption | omega | exact isB_z | exact isB_o | exact iI_in' (by assumption) (by omega) (by omega) | exact cat_int _ | exact cat_ref _ | exact cat_null | decide) only [↓x_132_522, up1_same, up1_ne, up1_up1, us_0, us_1, us_2, us_3, us_4, us_5, us_6, us_7, us_8, us_9, us_10, us_11, rw_zero, rw_succ, Option.toList_some, Option.toList_none, List.cons_append, List.nil_append, cat_int, cat_ref, cat_null, iI_add, iI_sub, iI_mul, iI_neg, List.length_cons, List.length_nil, ↓reduceIte, va_rf_some]
  refine km_level hM hS r2 z1b z2b (fun g' A2 u1 u2 => ?_)
  simp (disch := first | assumption | omega | exact isB_z | exact isB_o | exact iI_in' (by assumption) (by omega) (by omega) | exact cat_int _ | exact cat_ref _ | exact cat_null | decide) only [↓x_132_525, up1_same, up1_ne, up1_up1, us_0, us_1, us_2, us_3, us_4, us_5, us_6, us_7, us_8, us_9, us_10, us_11, rw_zero, rw_succ, Option.toList_some, Option.toList_none, List.cons_append, List.nil_append, cat_int, cat_ref, cat_null, iI_add, iI_sub, iI_mul, iI_neg, List.length_cons, List.length_nil, ↓reduceIte, va_rf_some]
  exact hN _ A2 P' (lw_end hT hs q1 q2 u1 u2)
set_option maxHeartbeats 400000 in
theorem lw_evenest {i L : Nat} (hK : exK t) (hM : mK t) (hsc : kd t 2 = 10 ∧ ln t 2 = L) (hi : i + 5 ≤ L) (hL : L ≤ 2560) (hI : lwI xs t V A P) (hN : ∀ (V' : Nat → Nat → Value) (A' : Nat → Nat → Int32) (P' : Nat → Nat → Option Nat), lwI xs t V' A' P' → Ev 40 132 655 [.ref 2, .ref 3, .ref 62, .int (iI i)] [] (t, V', A', P') Q) : Ev 40 132 530 [.ref 2, .ref 3, .ref 62, .int (iI i)] [] (t, V, A, P) Q := by
  obtain ⟨S, e, g, h, hv, hr, hT, hs⟩ := hI
  have hS := h.wfS
  obtain ⟨s1, s2⟩ := hsc
  have k3 := hK.1
  have k62 := hM.1
  obtain ⟨z1, z1a, z1c, e1⟩ := iI_of (A 2 ((i : Int) + 1).toNat)
  have z1b : -2147483648 ≤ z1 ∧ z1 < 2147483648 := ⟨z1a, z1c⟩
  obtain ⟨z2, z2a, z2c, e2⟩ := iI_of (A 2 ((i : Int) + 2).toNat)
  have z2b : -2147483648 ≤ z2 ∧ z2 < 2147483648 := ⟨z2a, z2c⟩
  simp (disch := first | assumption | omega | exact isB_z | exact isB_o | exact iI_in' (by assumption) (by omega) (by omega) | exact cat_int _ | exact cat_ref _ | exact cat_null | decide) only [↓x_132_530, ↓x_132_531, ↓x_132_532, ↓x_132_533, ↓x_132_534, ↓x_132_535, ↓x_132_536, ↓x_132_537, ↓x_132_538, ↓x_132_539, ↓x_132_540, up1_same, up1_ne, up1_up1, us_0, us_1, us_2, us_3, us_4, us_5, us_6, us_7, us_8, us_9, us_10, us_11, rw_zero, rw_succ, Option.toList_some, Option.toList_none, List.cons_append, List.nil_append, cat_int, cat_ref, cat_null, iI_add, iI_sub, iI_mul, iI_neg, List.length_cons, List.length_nil, ↓reduceIte, va_rf_some, iI_cl, e1, e2]
  simp (disch := first | assumption | omega | exact isB_z | exact isB_o | exact iI_in' (by assumption) (by omega) (by omega) | exact cat_int _ | exact cat_ref _ | exact cat_null | decide) only [↓x_132_541, up1_same, up1_ne, up1_up1, us_0, us_1, us_2, us_3, us_4, us_5, us_6, us_7, us_8, us_9, us_10, us_11, rw_zero, rw_succ, Option.toList_some, Option.toList_none, List.cons_append, List.nil_append, cat_int, cat_ref, cat_null, iI_add, iI_sub, iI_mul, iI_neg, List.length_cons, List.length_nil, ↓reduceIte, va_rf_some]
  refine kq_evenest hK hT h z1b z2b (fun V' A' P' e' q1 q2 => ?_)
  obtain ⟨r1, r2, r3⟩ := lw_mid q2 hv hr
  rw [r1]
  simp (disch := first | assumption | omega | exact isB_z | exact isB_o | exact iI_in' (by assumption) (by omega) (by omega) | exact cat_int _ | exact cat_ref _ | exact cat_null | decide) only [↓x_132_544, ↓x_132_545, ↓x_132_546, ↓x_132_547, ↓x_132_548, ↓x_132_549, ↓x_132_550, ↓x_132_551, ↓x_132_552, ↓x_132_553, ↓x_132_554, up1_same, up1_ne, up1_up1, us_0, us_1, us_2, us_3, us_4, us_5, us_6, us_7, us_8, us_9, us_10, us_11, rw_zero, rw_succ, Option.toList_some, Option.toList_none, List.cons_append, List.nil_append, cat_int, cat_ref, cat_null, iI_add, iI_sub, iI_mul, iI_neg, List.length_cons, List.length_nil, ↓reduceIte, va_rf_some, iI_cl, r3, e1, e2]
  simp (disch := first | assumption | omega | exact isB_z | exact isB_o | exact iI_in' (by assumption) (by omega) (by omega) | exact cat_int _ | exact cat_ref _ | exact cat_null | decide) only [↓x_132_555, up1_same, up1_ne, up1_up1, us_0, us_1, us_2, us_3, us_4, us_5, us_6, us_7, us_8, us_9, us_10, us_11, rw_zero, rw_succ, Option.toList_some, Option.toList_none, List.cons_append, List.nil_append, cat_int, cat_ref, cat_null, iI_add, iI_sub, iI_mul, iI_neg, List.length_cons, List.length_nil, ↓reduceIte, va_rf_some]
  refine kmq_evenest (A 21) hM hS r2 z1b z2b (fun g' A2 u1 u2 => ?_)
  simp (disch := first | assumption | omega | exact isB_z | exact isB_o | exact iI_in' (by assumption) (by omega) (by omega) | exact cat_int _ | exact cat_ref _ | exact cat_null | decide) only [↓x_132_558, up1_same, up1_ne, up1_up1, us_0, us_1, us_2, us_3, us_4, us_5, us_6, us_7, us_8, us_9, us_10, us_11, rw_zero, rw_succ, Option.toList_some, Option.toList_none, List.cons_append, List.nil_append, cat_int, cat_ref, cat_null, iI_add, iI_sub, iI_mul, iI_neg, List.length_cons, List.length_nil, ↓reduceIte, va_rf_some]
  exact hN _ A2 P' (lw_end hT hs q1 q2 u1 u2)
set_option maxHeartbeats 400000 in
theorem lw_weight {i L : Nat} (hK : exK t) (hM : mK t) (hsc : kd t 2 = 10 ∧ ln t 2 = L) (hi : i + 5 ≤ L) (hL : L ≤ 2560) (hI : lwI xs t V A P) (hN : ∀ (V' : Nat → Nat → Value) (A' : Nat → Nat → Int32) (P' : Nat → Nat → Option Nat), lwI xs t V' A' P' → Ev 40 132 655 [.ref 2, .ref 3, .ref 62, .int (iI i)] [] (t, V', A', P') Q) : Ev 40 132 563 [.ref 2, .ref 3, .ref 62, .int (iI i)] [] (t, V, A, P) Q := by
  obtain ⟨S, e, g, h, hv, hr, hT, hs⟩ := hI
  have hS := h.wfS
  obtain ⟨s1, s2⟩ := hsc
  have k3 := hK.1
  have k62 := hM.1
  obtain ⟨z1, z1a, z1c, e1⟩ := iI_of (A 2 ((i : Int) + 1).toNat)
  have z1b : -2147483648 ≤ z1 ∧ z1 < 2147483648 := ⟨z1a, z1c⟩
  simp (disch := first | assumption | omega | exact isB_z | exact isB_o | exact iI_in' (by assumption) (by omega) (by omega) | exact cat_int _ | exact cat_ref _ | exact cat_null | decide) only [↓x_132_563, ↓x_132_564, ↓x_132_565, ↓x_132_566, ↓x_132_567, ↓x_132_568, up1_same, up1_ne, up1_up1, us_0, us_1, us_2, us_3, us_4, us_5, us_6, us_7, us_8, us_9, us_10, us_11, rw_zero, rw_succ, Option.toList_some, Option.toList_none, List.cons_append, List.nil_append, cat_int, cat_ref, cat_null, iI_add, iI_sub, iI_mul, iI_neg, List.length_cons, List.length_nil, ↓reduceIte, va_rf_some, iI_cl, e1]
  simp (disch := first | assumption | omega | exact isB_z | exact isB_o | exact iI_in' (by assumption) (by omega) (by omega) | exact cat_int _ | exact cat_ref _ | exact cat_null | decide) only [↓x_132_569, up1_same, up1_ne, up1_up1, us_0, us_1, us_2, us_3, us_4, us_5, us_6, us_7, us_8, us_9, us_10, us_11, rw_zero, rw_succ, Option.toList_some, Option.toList_none, List.cons_append, List.nil_append, cat_int, cat_ref, cat_null, iI_add, iI_sub, iI_mul, iI_neg, List.length_cons, List.length_nil, ↓reduceIte, va_rf_some]
  refine kq_weight hK hT h z1b (fun V' A' P' e' q1 q2 => ?_)
  obtain ⟨r1, r2, r3⟩ := lw_mid q2 hv hr
  rw [r1]
  simp (disch := first | assumption | omega | exact isB_z | exact isB_o | exact iI_in' (by assumption) (by omega) (by omega) | exact cat_int _ | exact cat_ref _ | exact cat_null | decide) only [↓x_132_572, ↓x_132_573, ↓x_132_574, ↓x_132_575, ↓x_132_576, ↓x_132_577, up1_same, up1_ne, up1_up1, us_0, us_1, us_2, us_3, us_4, us_5, us_6, us_7, us_8, us_9, us_10, us_11, rw_zero, rw_succ, Option.toList_some, Option.toList_none, List.cons_append, List.nil_append, cat_int, cat_ref, cat_null, iI_add, iI_sub, iI_mul, iI_neg, List.length_cons, List.length_nil, ↓reduceIte, va_rf_some, iI_cl, r3, e1]
  simp (disch := first | assumption | omega | exact isB_z | exact isB_o | exact iI_in' (by assumption) (by omega) (by omega) | exact cat_int _ | exact cat_ref _ | exact cat_null | decide) only [↓x_132_578, up1_same, up1_ne, up1_up1, us_0, us_1, us_2, us_3, us_4, us_5, us_6, us_7, us_8, us_9, us_10, us_11, rw_zero, rw_succ, Option.toList_some, Option.toList_none, List.cons_append, List.nil_append, cat_int, cat_ref, cat_null, iI_add, iI_sub, iI_mul, iI_neg, List.length_cons, List.length_nil, ↓reduceIte, va_rf_some]
  refine km_weight hM hS r2 z1b (fun g' A2 u1 u2 => ?_)
  simp (disch := first | assumption | omega | exact isB_z | exact isB_o | exact iI_in' (by assumption) (by omega) (by omega) | exact cat_int _ | exact cat_ref _ | exact cat_null | decide) only [↓x_132_581, up1_same, up1_ne, up1_up1, us_0, us_1, us_2, us_3, us_4, us_5, us_6, us_7, us_8, us_9, us_10, us_11, rw_zero, rw_succ, Option.toList_some, Option.toList_none, List.cons_append, List.nil_append, cat_int, cat_ref, cat_null, iI_add, iI_sub, iI_mul, iI_neg, List.length_cons, List.length_nil, ↓reduceIte, va_rf_some]
  exact hN _ A2 P' (lw_end hT hs q1 q2 u1 u2)
set_option maxHeartbeats 400000 in
theorem lw_keep {i L : Nat} (hK : exK t) (hM : mK t) (hsc : kd t 2 = 10 ∧ ln t 2 = L) (hi : i + 5 ≤ L) (hL : L ≤ 2560) (hI : lwI xs t V A P) (hN : ∀ (V' : Nat → Nat → Value) (A' : Nat → Nat → Int32) (P' : Nat → Nat → Option Nat), lwI xs t V' A' P' → Ev 40 132 655 [.ref 2, .ref 3, .ref 62, .int (iI i)] [] (t, V', A', P') Q) : Ev 40 132 586 [.ref 2, .ref 3, .ref 62, .int (iI i)] [] (t, V, A, P) Q := by
  obtain ⟨S, e, g, h, hv, hr, hT, hs⟩ := hI
  have hS := h.wfS
  obtain ⟨s1, s2⟩ := hsc
  have k3 := hK.1
  have k62 := hM.1
  obtain ⟨z1, z1a, z1c, e1⟩ := iI_of (A 2 ((i : Int) + 1).toNat)
  have z1b : -2147483648 ≤ z1 ∧ z1 < 2147483648 := ⟨z1a, z1c⟩
  simp (disch := first | assumption | omega | exact isB_z | exact isB_o | exact iI_in' (by assumption) (by omega) (by omega) | exact cat_int _ | exact cat_ref _ | exact cat_null | decide) only [↓x_132_586, ↓x_132_587, ↓x_132_588, ↓x_132_589, ↓x_132_590, ↓x_132_591, up1_same, up1_ne, up1_up1, us_0, us_1, us_2, us_3, us_4, us_5, us_6, us_7, us_8, us_9, us_10, us_11, rw_zero, rw_succ, Option.toList_some, Option.toList_none, List.cons_append, List.nil_append, cat_int, cat_ref, cat_null, iI_add, iI_sub, iI_mul, iI_neg, List.length_cons, List.length_nil, ↓reduceIte, va_rf_some, iI_cl, e1]
  simp (disch := first | assumption | omega | exact isB_z | exact isB_o | exact iI_in' (by assumption) (by omega) (by omega) | exact cat_int _ | exact cat_ref _ | exact cat_null | decide) only [↓x_132_592, up1_same, up1_ne, up1_up1, us_0, us_1, us_2, us_3, us_4, us_5, us_6, us_7, us_8, us_9, us_10, us_11, rw_zero, rw_succ, Option.toList_some, Option.toList_none, List.cons_append, List.nil_append, cat_int, cat_ref, cat_null, iI_add, iI_sub, iI_mul, iI_neg, List.length_cons, List.length_nil, ↓reduceIte, va_rf_some]
  refine k_keep hK h z1b (fun V' A' P' e' q1 q2 => ?_)
  obtain ⟨r1, r2, r3⟩ := lw_mid q2 hv hr
  rw [r1]
  simp (disch := first | assumption | omega | exact isB_z | exact isB_o | exact iI_in' (by assumption) (by omega) (by omega) | exact cat_int _ | exact cat_ref _ | exact cat_null | decide) only [↓x_132_595, ↓x_132_596, ↓x_132_597, ↓x_132_598, ↓x_132_599, ↓x_132_600, up1_same, up1_ne, up1_up1, us_0, us_1, us_2, us_3, us_4, us_5, us_6, us_7, us_8, us_9, us_10, us_11, rw_zero, rw_succ, Option.toList_some, Option.toList_none, List.cons_append, List.nil_append, cat_int, cat_ref, cat_null, iI_add, iI_sub, iI_mul, iI_neg, List.length_cons, List.length_nil, ↓reduceIte, va_rf_some, iI_cl, r3, e1]
  simp (disch := first | assumption | omega | exact isB_z | exact isB_o | exact iI_in' (by assumption) (by omega) (by omega) | exact cat_int _ | exact cat_ref _ | exact cat_null | decide) only [↓x_132_601, up1_same, up1_ne, up1_up1, us_0, us_1, us_2, us_3, us_4, us_5, us_6, us_7, us_8, us_9, us_10, us_11, rw_zero, rw_succ, Option.toList_some, Option.toList_none, List.cons_append, List.nil_append, cat_int, cat_ref, cat_null, iI_add, iI_sub, iI_mul, iI_neg, List.length_cons, List.length_nil, ↓reduceIte, va_rf_some]
  refine km_keep hM hS r2 z1b (fun g' A2 u1 u2 => ?_)
  simp (disch := first | assumption | omega | exact isB_z | exact isB_o | exact iI_in' (by assumption) (by omega) (by omega) | exact cat_int _ | exact cat_ref _ | exact cat_null | decide) only [↓x_132_604, up1_same, up1_ne, up1_up1, us_0, us_1, us_2, us_3, us_4, us_5, us_6, us_7, us_8, us_9, us_10, us_11, rw_zero, rw_succ, Option.toList_some, Option.toList_none, List.cons_append, List.nil_append, cat_int, cat_ref, cat_null, iI_add, iI_sub, iI_mul, iI_neg, List.length_cons, List.length_nil, ↓reduceIte, va_rf_some]
  exact hN _ A2 P' (lw_end hT hs q1 q2 u1 u2)
set_option maxHeartbeats 400000 in
theorem lw_back {i L : Nat} (hK : exK t) (hM : mK t) (hsc : kd t 2 = 10 ∧ ln t 2 = L) (hi : i + 5 ≤ L) (hL : L ≤ 2560) (hI : lwI xs t V A P) (hN : ∀ (V' : Nat → Nat → Value) (A' : Nat → Nat → Int32) (P' : Nat → Nat → Option Nat), lwI xs t V' A' P' → Ev 40 132 655 [.ref 2, .ref 3, .ref 62, .int (iI i)] [] (t, V', A', P') Q) : Ev 40 132 609 [.ref 2, .ref 3, .ref 62, .int (iI i)] [] (t, V, A, P) Q := by
  obtain ⟨S, e, g, h, hv, hr, hT, hs⟩ := hI
  have hS := h.wfS
  obtain ⟨s1, s2⟩ := hsc
  have k3 := hK.1
  have k62 := hM.1
  obtain ⟨z1, z1a, z1c, e1⟩ := iI_of (A 2 ((i : Int) + 1).toNat)
  have z1b : -2147483648 ≤ z1 ∧ z1 < 2147483648 := ⟨z1a, z1c⟩
  simp (disch := first | assumption | omega | exact isB_z | exact isB_o | exact iI_in' (by assumption) (by omega) (by omega) | exact cat_int _ | exact cat_ref _ | exact cat_null | decide) only [↓x_132_609, ↓x_132_610, ↓x_132_611, ↓x_132_612, ↓x_132_613, ↓x_132_614, up1_same, up1_ne, up1_up1, us_0, us_1, us_2, us_3, us_4, us_5, us_6, us_7, us_8, us_9, us_10, us_11, rw_zero, rw_succ, Option.toList_some, Option.toList_none, List.cons_append, List.nil_append, cat_int, cat_ref, cat_null, iI_add, iI_sub, iI_mul, iI_neg, List.length_cons, List.length_nil, ↓reduceIte, va_rf_some, iI_cl, e1]
  simp (disch := first | assumption | omega | exact isB_z | exact isB_o | exact iI_in' (by assumption) (by omega) (by omega) | exact cat_int _ | exact cat_ref _ | exact cat_null | decide) only [↓x_132_615, up1_same, up1_ne, up1_up1, us_0, us_1, us_2, us_3, us_4, us_5, us_6, us_7, us_8, us_9, us_10, us_11, rw_zero, rw_succ, Option.toList_some, Option.toList_none, List.cons_append, List.nil_append, cat_int, cat_ref, cat_null, iI_add, iI_sub, iI_mul, iI_neg, List.length_cons, List.length_nil, ↓reduceIte, va_rf_some]
  refine k_back hK h z1b (fun V' A' P' e' q1 q2 => ?_)
  obtain ⟨r1, r2, r3⟩ := lw_mid q2 hv hr
  rw [r1]
  simp (disch := first | assumption | omega | exact isB_z | exact isB_o | exact iI_in' (by assumption) (by omega) (by omega) | exact cat_int _ | exact cat_ref _ | exact cat_null | decide) only [↓x_132_618, ↓x_132_619, ↓x_132_620, ↓x_132_621, ↓x_132_622, ↓x_132_623, up1_same, up1_ne, up1_up1, us_0, us_1, us_2, us_3, us_4, us_5, us_6, us_7, us_8, us_9, us_10, us_11, rw_zero, rw_succ, Option.toList_some, Option.toList_none, List.cons_append, List.nil_append, cat_int, cat_ref, cat_null, iI_add, iI_sub, iI_mul, iI_neg, List.length_cons, List.length_nil, ↓reduceIte, va_rf_some, iI_cl, r3, e1]
  simp (disch := first | assumption | omega | exact isB_z | exact isB_o | exact iI_in' (by assumption) (by omega) (by omega) | exact cat_int _ | exact cat_ref _ | exact cat_null | decide) only [↓x_132_624, up1_same, up1_ne, up1_up1, us_0, us_1, us_2, us_3, us_4, us_5, us_6, us_7, us_8, us_9, us_10, us_11, rw_zero, rw_succ, Option.toList_some, Option.toList_none, List.cons_append, List.nil_append, cat_int, cat_ref, cat_null, iI_add, iI_sub, iI_mul, iI_neg, List.length_cons, List.length_nil, ↓reduceIte, va_rf_some]
  refine km_back hM hS r2 z1b (fun g' A2 u1 u2 => ?_)
  simp (disch := first | assumption | omega | exact isB_z | exact isB_o | exact iI_in' (by assumption) (by omega) (by omega) | exact cat_int _ | exact cat_ref _ | exact cat_null | decide) only [↓x_132_627, up1_same, up1_ne, up1_up1, us_0, us_1, us_2, us_3, us_4, us_5, us_6, us_7, us_8, us_9, us_10, us_11, rw_zero, rw_succ, Option.toList_some, Option.toList_none, List.cons_append, List.nil_append, cat_int, cat_ref, cat_null, iI_add, iI_sub, iI_mul, iI_neg, List.length_cons, List.length_nil, ↓reduceIte, va_rf_some]
  exact hN _ A2 P' (lw_end hT hs q1 q2 u1 u2)
set_option maxHeartbeats 400000 in
theorem lw_count {i L : Nat} (hK : exK t) (hM : mK t) (hsc : kd t 2 = 10 ∧ ln t 2 = L) (hi : i + 5 ≤ L) (hL : L ≤ 2560) (hI : lwI xs t V A P) (hN : ∀ (V' : Nat → Nat → Value) (A' : Nat → Nat → Int32) (P' : Nat → Nat → Option Nat), lwI xs t V' A' P' → Ev 40 132 655 [.ref 2, .ref 3, .ref 62, .int (iI i)] [] (t, V', A', P') Q) : Ev 40 132 632 [.ref 2, .ref 3, .ref 62, .int (iI i)] [] (t, V, A, P) Q := by
  obtain ⟨S, e, g, h, hv, hr, hT, hs⟩ := hI
  have hS := h.wfS
  obtain ⟨s1, s2⟩ := hsc
  have k3 := hK.1
  have k62 := hM.1
  obtain ⟨z1, z1a, z1c, e1⟩ := iI_of (A 2 ((i : Int) + 1).toNat)
  have z1b : -2147483648 ≤ z1 ∧ z1 < 2147483648 := ⟨z1a, z1c⟩
  simp (disch := first | assumption | omega | exact isB_z | exact isB_o | exact iI_in' (by assumption) (by omega) (by omega) | exact cat_int _ | exact cat_ref _ | exact cat_null | decide) only [↓x_132_632, ↓x_132_633, ↓x_132_634, ↓x_132_635, ↓x_132_636, ↓x_132_637, up1_same, up1_ne, up1_up1, us_0, us_1, us_2, us_3, us_4, us_5, us_6, us_7, us_8, us_9, us_10, us_11, rw_zero, rw_succ, Option.toList_some, Option.toList_none, List.cons_append, List.nil_append, cat_int, cat_ref, cat_null, iI_add, iI_sub, iI_mul, iI_neg, List.length_cons, List.length_nil, ↓reduceIte, va_rf_some, iI_cl, e1]
  simp (disch := first | assumption | omega | exact isB_z | exact isB_o | exact iI_in' (by assumption) (by omega) (by omega) | exact cat_int _ | exact cat_ref _ | exact cat_null | decide) only [↓x_132_638, up1_same, up1_ne, up1_up1, us_0, us_1, us_2, us_3, us_4, us_5, us_6, us_7, us_8, us_9, us_10, us_11, rw_zero, rw_succ, Option.toList_some, Option.toList_none, List.cons_append, List.nil_append, cat_int, cat_ref, cat_null, iI_add, iI_sub, iI_mul, iI_neg, List.length_cons, List.length_nil, ↓reduceIte, va_rf_some]
  refine kq_count hK hT h z1b (fun V' A' P' e' q1 q2 => ?_)
  obtain ⟨r1, r2, r3⟩ := lw_mid q2 hv hr
  rw [r1]
  simp (disch := first | assumption | omega | exact isB_z | exact isB_o | exact iI_in' (by assumption) (by omega) (by omega) | exact cat_int _ | exact cat_ref _ | exact cat_null | decide) only [↓x_132_641, ↓x_132_642, ↓x_132_643, ↓x_132_644, ↓x_132_645, ↓x_132_646, up1_same, up1_ne, up1_up1, us_0, us_1, us_2, us_3, us_4, us_5, us_6, us_7, us_8, us_9, us_10, us_11, rw_zero, rw_succ, Option.toList_some, Option.toList_none, List.cons_append, List.nil_append, cat_int, cat_ref, cat_null, iI_add, iI_sub, iI_mul, iI_neg, List.length_cons, List.length_nil, ↓reduceIte, va_rf_some, iI_cl, r3, e1]
  simp (disch := first | assumption | omega | exact isB_z | exact isB_o | exact iI_in' (by assumption) (by omega) (by omega) | exact cat_int _ | exact cat_ref _ | exact cat_null | decide) only [↓x_132_647, up1_same, up1_ne, up1_up1, us_0, us_1, us_2, us_3, us_4, us_5, us_6, us_7, us_8, us_9, us_10, us_11, rw_zero, rw_succ, Option.toList_some, Option.toList_none, List.cons_append, List.nil_append, cat_int, cat_ref, cat_null, iI_add, iI_sub, iI_mul, iI_neg, List.length_cons, List.length_nil, ↓reduceIte, va_rf_some]
  refine km_count hM hS r2 z1b (fun g' A2 u1 u2 => ?_)
  simp (disch := first | assumption | omega | exact isB_z | exact isB_o | exact iI_in' (by assumption) (by omega) (by omega) | exact cat_int _ | exact cat_ref _ | exact cat_null | decide) only [↓x_132_650, up1_same, up1_ne, up1_up1, us_0, us_1, us_2, us_3, us_4, us_5, us_6, us_7, us_8, us_9, us_10, us_11, rw_zero, rw_succ, Option.toList_some, Option.toList_none, List.cons_append, List.nil_append, cat_int, cat_ref, cat_null, iI_add, iI_sub, iI_mul, iI_neg, List.length_cons, List.length_nil, ↓reduceIte, va_rf_some]
  exact hN _ A2 P' (lw_end hT hs q1 q2 u1 u2)
end
