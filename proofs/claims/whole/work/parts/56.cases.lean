/-! THE LAW: call by call -/
section
variable {t : mL} {V : Nat → Nat → Value} {A : Nat → Nat → Int32} {P : Nat → Nat → Option Nat} {Q : Option Value → mM → Prop} {xs : Nat → Int32}
set_option maxHeartbeats 400000 in
theorem lw_type {i L : Nat} (hK : exK t) (hM : mK t) (hsc : kd t 2 = 10 ∧ ln t 2 = L) (hi : i + 5 ≤ L) (hL : L ≤ 2560) (hI : lwI xs t V A P) (hN : ∀ (V' : Nat → Nat → Value) (A' : Nat → Nat → Int32) (P' : Nat → Nat → Option Nat), lwI xs t V' A' P' → Ev 40 133 655 [.ref 2, .ref 3, .ref 62, .int (iI i)] [] (t, V', A', P') Q) : Ev 40 133 132 [.ref 2, .ref 3, .ref 62, .int (iI i)] [] (t, V, A, P) Q := by
  obtain ⟨S, e, g, h, hv, hr, hT, hs⟩ := hI
  have hS := h.wfS
  obtain ⟨s1, s2⟩ := hsc
  have k3 := hK.1
  have k62 := hM.1
  obtain ⟨z1, z1a, z1c, e1⟩ := iI_of (A 2 ((i : Int) + 1).toNat)
  have z1b : -2147483648 ≤ z1 ∧ z1 < 2147483648 := ⟨z1a, z1c⟩
  simp (disch := first | assumption | omega | exact isB_z | exact isB_o | exact iI_in' (by assumption) (by omega) (by omega) | exact cat_int _ | exact cat_ref _ | exact cat_null | decide) only [↓x_133_132, ↓x_133_133, ↓x_133_134, ↓x_133_135, ↓x_133_136, ↓x_133_137, up1_same, up1_ne, up1_up1, us_0, us_1, us_2, us_3, us_4, us_5, us_6, us_7, us_8, us_9, us_10, us_11, rw_zero, rw_succ, Option.toList_some, Option.toList_none, List.cons_append, List.nil_append, cat_int, cat_ref, cat_null, iI_add, iI_sub, iI_mul, iI_neg, List.length_cons, List.length_nil, ↓reduceIte, va_rf_some, iI_cl, e1]
  simp (disch := first | assumption | omega | exact isB_z | exact isB_o | exact iI_in' (by assumption) (by omega) (by omega) | exact cat_int _ | exact cat_ref _ | exact cat_null | decide) only [↓x_133_138, up1_same, up1_ne, up1_up1, us_0, us_1, us_2, us_3, us_4, us_5, us_6, us_7, us_8, us_9, us_10, us_11, rw_zero, rw_succ, Option.toList_some, Option.toList_none, List.cons_append, List.nil_append, cat_int, cat_ref, cat_null, iI_add, iI_sub, iI_mul, iI_neg, List.length_cons, List.length_nil, ↓reduceIte, va_rf_some]
  refine k_type hK h z1b (fun V' A' P' e' q1 q2 => ?_)
  obtain ⟨r1, r2, r3⟩ := lw_mid q2 hv hr
  rw [r1]
  simp (disch := first | assumption | omega | exact isB_z | exact isB_o | exact iI_in' (by assumption) (by omega) (by omega) | exact cat_int _ | exact cat_ref _ | exact cat_null | decide) only [↓x_133_141, ↓x_133_142, ↓x_133_143, ↓x_133_144, ↓x_133_145, ↓x_133_146, up1_same, up1_ne, up1_up1, us_0, us_1, us_2, us_3, us_4, us_5, us_6, us_7, us_8, us_9, us_10, us_11, rw_zero, rw_succ, Option.toList_some, Option.toList_none, List.cons_append, List.nil_append, cat_int, cat_ref, cat_null, iI_add, iI_sub, iI_mul, iI_neg, List.length_cons, List.length_nil, ↓reduceIte, va_rf_some, iI_cl, r3, e1]
  simp (disch := first | assumption | omega | exact isB_z | exact isB_o | exact iI_in' (by assumption) (by omega) (by omega) | exact cat_int _ | exact cat_ref _ | exact cat_null | decide) only [↓x_133_147, up1_same, up1_ne, up1_up1, us_0, us_1, us_2, us_3, us_4, us_5, us_6, us_7, us_8, us_9, us_10, us_11, rw_zero, rw_succ, Option.toList_some, Option.toList_none, List.cons_append, List.nil_append, cat_int, cat_ref, cat_null, iI_add, iI_sub, iI_mul, iI_neg, List.length_cons, List.length_nil, ↓reduceIte, va_rf_some]
  refine km_type hM hS r2 z1b (fun g' A2 u1 u2 => ?_)
  simp (disch := first | assumption | omega | exact isB_z | exact isB_o | exact iI_in' (by assumption) (by omega) (by omega) | exact cat_int _ | exact cat_ref _ | exact cat_null | decide) only [↓x_133_150, up1_same, up1_ne, up1_up1, us_0, us_1, us_2, us_3, us_4, us_5, us_6, us_7, us_8, us_9, us_10, us_11, rw_zero, rw_succ, Option.toList_some, Option.toList_none, List.cons_append, List.nil_append, cat_int, cat_ref, cat_null, iI_add, iI_sub, iI_mul, iI_neg, List.length_cons, List.length_nil, ↓reduceIte, va_rf_some]
  exact hN _ A2 P' (lw_end hT hs q1 q2 u1 u2)
set_option maxHeartbeats 400000 in
theorem lw_clear {i L : Nat} (hK : exK t) (hM : mK t) (hsc : kd t 2 = 10 ∧ ln t 2 = L) (hi : i + 5 ≤ L) (hL : L ≤ 2560) (hI : lwI xs t V A P) (hN : ∀ (V' : Nat → Nat → Value) (A' : Nat → Nat → Int32) (P' : Nat → Nat → Option Nat), lwI xs t V' A' P' → Ev 40 133 655 [.ref 2, .ref 3, .ref 62, .int (iI i)] [] (t, V', A', P') Q) : Ev 40 133 155 [.ref 2, .ref 3, .ref 62, .int (iI i)] [] (t, V, A, P) Q := by
  obtain ⟨S, e, g, h, hv, hr, hT, hs⟩ := hI
  have hS := h.wfS
  obtain ⟨s1, s2⟩ := hsc
  have k3 := hK.1
  have k62 := hM.1
  simp (disch := first | assumption | omega | exact isB_z | exact isB_o | exact iI_in' (by assumption) (by omega) (by omega) | exact cat_int _ | exact cat_ref _ | exact cat_null | decide) only [↓x_133_155, up1_same, up1_ne, up1_up1, us_0, us_1, us_2, us_3, us_4, us_5, us_6, us_7, us_8, us_9, us_10, us_11, rw_zero, rw_succ, Option.toList_some, Option.toList_none, List.cons_append, List.nil_append, cat_int, cat_ref, cat_null, iI_add, iI_sub, iI_mul, iI_neg, List.length_cons, List.length_nil, ↓reduceIte, va_rf_some, iI_cl]
  simp (disch := first | assumption | omega | exact isB_z | exact isB_o | exact iI_in' (by assumption) (by omega) (by omega) | exact cat_int _ | exact cat_ref _ | exact cat_null | decide) only [↓x_133_156, up1_same, up1_ne, up1_up1, us_0, us_1, us_2, us_3, us_4, us_5, us_6, us_7, us_8, us_9, us_10, us_11, rw_zero, rw_succ, Option.toList_some, Option.toList_none, List.cons_append, List.nil_append, cat_int, cat_ref, cat_null, iI_add, iI_sub, iI_mul, iI_neg, List.length_cons, List.length_nil, ↓reduceIte, va_rf_some]
  refine k_clear hK h (fun V' A' P' e' q1 q2 => ?_)
  obtain ⟨r1, r2, r3⟩ := lw_mid q2 hv hr
  rw [r1]
  simp (disch := first | assumption | omega | exact isB_z | exact isB_o | exact iI_in' (by assumption) (by omega) (by omega) | exact cat_int _ | exact cat_ref _ | exact cat_null | decide) only [↓x_133_159, up1_same, up1_ne, up1_up1, us_0, us_1, us_2, us_3, us_4, us_5, us_6, us_7, us_8, us_9, us_10, us_11, rw_zero, rw_succ, Option.toList_some, Option.toList_none, List.cons_append, List.nil_append, cat_int, cat_ref, cat_null, iI_add, iI_sub, iI_mul, iI_neg, List.length_cons, List.length_nil, ↓reduceIte, va_rf_some, iI_cl, r3]
  simp (disch := first | assumption | omega | exact isB_z | exact isB_o | exact iI_in' (by assumption) (by omega) (by omega) | exact cat_int _ | exact cat_ref _ | exact cat_null | decide) only [↓x_133_160, up1_same, up1_ne, up1_up1, us_0, us_1, us_2, us_3, us_4, us_5, us_6, us_7, us_8, us_9, us_10, us_11, rw_zero, rw_succ, Option.toList_some, Option.toList_none, List.cons_append, List.nil_append, cat_int, cat_ref, cat_null, iI_add, iI_sub, iI_mul, iI_neg, List.length_cons, List.length_nil, ↓reduceIte, va_rf_some]
  refine km_clear hM r2 (fun g' A2 u1 u2 => ?_)
  simp (disch := first | assumption | omega | exact isB_z | exact isB_o | exact iI_in' (by assumption) (by omega) (by omega) | exact cat_int _ | exact cat_ref _ | exact cat_null | decide) only [↓x_133_163, up1_same, up1_ne, up1_up1, us_0, us_1, us_2, us_3, us_4, us_5, us_6, us_7, us_8, us_9, us_10, us_11, rw_zero, rw_succ, Option.toList_some, Option.toList_none, List.cons_append, List.nil_append, cat_int, cat_ref, cat_null, iI_add, iI_sub, iI_mul, iI_neg, List.length_cons, List.length_nil, ↓reduceIte, va_rf_some]
  exact hN _ A2 P' (lw_end hT hs q1 q2 u1 u2)
set_option maxHeartbeats 400000 in
theorem lw_tells {i L : Nat} (hK : exK t) (hM : mK t) (hsc : kd t 2 = 10 ∧ ln t 2 = L) (hi : i + 5 ≤ L) (hL : L ≤ 2560) (hI : lwI xs t V A P) (hN : ∀ (V' : Nat → Nat → Value) (A' : Nat → Nat → Int32) (P' : Nat → Nat → Option Nat), lwI xs t V' A' P' → Ev 40 133 655 [.ref 2, .ref 3, .ref 62, .int (iI i)] [] (t, V', A', P') Q) : Ev 40 133 168 [.ref 2, .ref 3, .ref 62, .int (iI i)] [] (t, V, A, P) Q := by
  obtain ⟨S, e, g, h, hv, hr, hT, hs⟩ := hI
  have hS := h.wfS
  obtain ⟨s1, s2⟩ := hsc
  have k3 := hK.1
  have k62 := hM.1
  simp (disch := first | assumption | omega | exact isB_z | exact isB_o | exact iI_in' (by assumption) (by omega) (by omega) | exact cat_int _ | exact cat_ref _ | exact cat_null | decide) only [↓x_133_168, up1_same, up1_ne, up1_up1, us_0, us_1, us_2, us_3, us_4, us_5, us_6, us_7, us_8, us_9, us_10, us_11, rw_zero, rw_succ, Option.toList_some, Option.toList_none, List.cons_append, List.nil_append, cat_int, cat_ref, cat_null, iI_add, iI_sub, iI_mul, iI_neg, List.length_cons, List.length_nil, ↓reduceIte, va_rf_some, iI_cl]
  simp (disch := first | assumption | omega | exact isB_z | exact isB_o | exact iI_in' (by assumption) (by omega) (by omega) | exact cat_int _ | exact cat_ref _ | exact cat_null | decide) only [↓x_133_169, up1_same, up1_ne, up1_up1, us_0, us_1, us_2, us_3, us_4, us_5, us_6, us_7, us_8, us_9, us_10, us_11, rw_zero, rw_succ, Option.toList_some, Option.toList_none, List.cons_append, List.nil_append, cat_int, cat_ref, cat_null, iI_add, iI_sub, iI_mul, iI_neg, List.length_cons, List.length_nil, ↓reduceIte, va_rf_some]
  refine k_tells hK hT h (fun V' A' P' e' q1 q2 => ?_)
  obtain ⟨r1, r2, r3⟩ := lw_mid q2 hv hr
  rw [r1]
  simp (disch := first | assumption | omega | exact isB_z | exact isB_o | exact iI_in' (by assumption) (by omega) (by omega) | exact cat_int _ | exact cat_ref _ | exact cat_null | decide) only [↓x_133_172, up1_same, up1_ne, up1_up1, us_0, us_1, us_2, us_3, us_4, us_5, us_6, us_7, us_8, us_9, us_10, us_11, rw_zero, rw_succ, Option.toList_some, Option.toList_none, List.cons_append, List.nil_append, cat_int, cat_ref, cat_null, iI_add, iI_sub, iI_mul, iI_neg, List.length_cons, List.length_nil, ↓reduceIte, va_rf_some, iI_cl, r3]
  simp (disch := first | assumption | omega | exact isB_z | exact isB_o | exact iI_in' (by assumption) (by omega) (by omega) | exact cat_int _ | exact cat_ref _ | exact cat_null | decide) only [↓x_133_173, up1_same, up1_ne, up1_up1, us_0, us_1, us_2, us_3, us_4, us_5, us_6, us_7, us_8, us_9, us_10, us_11, rw_zero, rw_succ, Option.toList_some, Option.toList_none, List.cons_append, List.nil_append, cat_int, cat_ref, cat_null, iI_add, iI_sub, iI_mul, iI_neg, List.length_cons, List.length_nil, ↓reduceIte, va_rf_some]
  refine km_tells hM hS r2 (fun g' A2 u1 u2 => ?_)
  simp (disch := first | assumption | omega | exact isB_z | exact isB_o | exact iI_in' (by assumption) (by omega) (by omega) | exact cat_int _ | exact cat_ref _ | exact cat_null | decide) only [↓x_133_176, up1_same, up1_ne, up1_up1, us_0, us_1, us_2, us_3, us_4, us_5, us_6, us_7, us_8, us_9, us_10, us_11, rw_zero, rw_succ, Option.toList_some, Option.toList_none, List.cons_append, List.nil_append, cat_int, cat_ref, cat_null, iI_add, iI_sub, iI_mul, iI_neg, List.length_cons, List.length_nil, ↓reduceIte, va_rf_some]
  exact hN _ A2 P' (lw_end hT hs q1 q2 u1 u2)
set_option maxHeartbeats 400000 in
theorem lw_sends {i L : Nat} (hK : exK t) (hM : mK t) (hsc : kd t 2 = 10 ∧ ln t 2 = L) (hi : i + 5 ≤ L) (hL : L ≤ 2560) (hI : lwI xs t V A P) (hN : ∀ (V' : Nat → Nat → Value) (A' : Nat → Nat → Int32) (P' : Nat → Nat → Option Nat), lwI xs t V' A' P' → Ev 40 133 655 [.ref 2, .ref 3, .ref 62, .int (iI i)] [] (t, V', A', P') Q) : Ev 40 133 181 [.ref 2, .ref 3, .ref 62, .int (iI i)] [] (t, V, A, P) Q := by
  obtain ⟨S, e, g, h, hv, hr, hT, hs⟩ := hI
  have hS := h.wfS
  obtain ⟨s1, s2⟩ := hsc
  have k3 := hK.1
  have k62 := hM.1
  obtain ⟨z1, z1a, z1c, e1⟩ := iI_of (A 2 ((i : Int) + 1).toNat)
  have z1b : -2147483648 ≤ z1 ∧ z1 < 2147483648 := ⟨z1a, z1c⟩
  simp (disch := first | assumption | omega | exact isB_z | exact isB_o | exact iI_in' (by assumption) (by omega) (by omega) | exact cat_int _ | exact cat_ref _ | exact cat_null | decide) only [↓x_133_181, ↓x_133_182, ↓x_133_183, ↓x_133_184, ↓x_133_185, ↓x_133_186, up1_same, up1_ne, up1_up1, us_0, us_1, us_2, us_3, us_4, us_5, us_6, us_7, us_8, us_9, us_10, us_11, rw_zero, rw_succ, Option.toList_some, Option.toList_none, List.cons_append, List.nil_append, cat_int, cat_ref, cat_null, iI_add, iI_sub, iI_mul, iI_neg, List.length_cons, List.length_nil, ↓reduceIte, va_rf_some, iI_cl, e1]
  simp (disch := first | assumption | omega | exact isB_z | exact isB_o | exact iI_in' (by assumption) (by omega) (by omega) | exact cat_int _ | exact cat_ref _ | exact cat_null | decide) only [↓x_133_187, up1_same, up1_ne, up1_up1, us_0, us_1, us_2, us_3, us_4, us_5, us_6, us_7, us_8, us_9, us_10, us_11, rw_zero, rw_succ, Option.toList_some, Option.toList_none, List.cons_append, List.nil_append, cat_int, cat_ref, cat_null, iI_add, iI_sub, iI_mul, iI_neg, List.length_cons, List.length_nil, ↓reduceIte, va_rf_some]
  refine k_sends hK hT h z1b (fun V' A' P' e' q1 q2 => ?_)
  obtain ⟨r1, r2, r3⟩ := lw_mid q2 hv hr
  rw [r1]
  simp (disch := first | assumption | omega | exact isB_z | exact isB_o | exact iI_in' (by assumption) (by omega) (by omega) | exact cat_int _ | exact cat_ref _ | exact cat_null | decide) only [↓x_133_190, ↓x_133_191, ↓x_133_192, ↓x_133_193, ↓x_133_194, ↓x_133_195, up1_same, up1_ne, up1_up1, us_0, us_1, us_2, us_3, us_4, us_5, us_6, us_7, us_8, us_9, us_10, us_11, rw_zero, rw_succ, Option.toList_some, Option.toList_none, List.cons_append, List.nil_append, cat_int, cat_ref, cat_null, iI_add, iI_sub, iI_mul, iI_neg, List.length_cons, List.length_nil, ↓reduceIte, va_rf_some, iI_cl, r3, e1]
  simp (disch := first | assumption | omega | exact isB_z | exact isB_o | exact iI_in' (by assumption) (by omega) (by omega) | exact cat_int _ | exact cat_ref _ | exact cat_null | decide) only [↓x_133_196, up1_same, up1_ne, up1_up1, us_0, us_1, us_2, us_3, us_4, us_5, us_6, us_7, us_8, us_9, us_10, us_11, rw_zero, rw_succ, Option.toList_some, Option.toList_none, List.cons_append, List.nil_append, cat_int, cat_ref, cat_null, iI_add, iI_sub, iI_mul, iI_neg, List.length_cons, List.length_nil, ↓reduceIte, va_rf_some]
  refine km_sends hM hS r2 z1b (fun g' A2 u1 u2 => ?_)
  simp (disch := first | assumption | omega | exact isB_z | exact isB_o | exact iI_in' (by assumption) (by omega) (by omega) | exact cat_int _ | exact cat_ref _ | exact cat_null | decide) only [↓x_133_199, up1_same, up1_ne, up1_up1, us_0, us_1, us_2, us_3, us_4, us_5, us_6, us_7, us_8, us_9, us_10, us_11, rw_zero, rw_succ, Option.toList_some, Option.toList_none, List.cons_append, List.nil_append, cat_int, cat_ref, cat_null, iI_add, iI_sub, iI_mul, iI_neg, List.length_cons, List.length_nil, ↓reduceIte, va_rf_some]
  exact hN _ A2 P' (lw_end hT hs q1 q2 u1 u2)
set_option maxHeartbeats 400000 in
theorem lw_marks {i L : Nat} (hK : exK t) (hM : mK t) (hsc : kd t 2 = 10 ∧ ln t 2 = L) (hi : i + 5 ≤ L) (hL : L ≤ 2560) (hI : lwI xs t V A P) (hN : ∀ (V' : Nat → Nat → Value) (A' : Nat → Nat → Int32) (P' : Nat → Nat → Option Nat), lwI xs t V' A' P' → Ev 40 133 655 [.ref 2, .ref 3, .ref 62, .int (iI i)] [] (t, V', A', P') Q) : Ev 40 133 204 [.ref 2, .ref 3, .ref 62, .int (iI i)] [] (t, V, A, P) Q := by
  obtain ⟨S, e, g, h, hv, hr, hT, hs⟩ := hI
  have hS := h.wfS
  obtain ⟨s1, s2⟩ := hsc
  have k3 := hK.1
  have k62 := hM.1
  obtain ⟨z1, z1a, z1c, e1⟩ := iI_of (A 2 ((i : Int) + 1).toNat)
  have z1b : -2147483648 ≤ z1 ∧ z1 < 2147483648 := ⟨z1a, z1c⟩
  simp (disch := first | assumption | omega | exact isB_z | exact isB_o | exact iI_in' (by assumption) (by omega) (by omega) | exact cat_int _ | exact cat_ref _ | exact cat_null | decide) only [↓x_133_204, ↓x_133_205, ↓x_133_206, ↓x_133_207, ↓x_133_208, ↓x_133_209, up1_same, up1_ne, up1_up1, us_0, us_1, us_2, us_3, us_4, us_5, us_6, us_7, us_8, us_9, us_10, us_11, rw_zero, rw_succ, Option.toList_some, Option.toList_none, List.cons_append, List.nil_append, cat_int, cat_ref, cat_null, iI_add, iI_sub, iI_mul, iI_neg, List.length_cons, List.length_nil, ↓reduceIte, va_rf_some, iI_cl, e1]
  simp (disch := first | assumption | omega | exact isB_z | exact isB_o | exact iI_in' (by assumption) (by omega) (by omega) | exact cat_int _ | exact cat_ref _ | exact cat_null | decide) only [↓x_133_210, up1_same, up1_ne, up1_up1, us_0, us_1, us_2, us_3, us_4, us_5, us_6, us_7, us_8, us_9, us_10, us_11, rw_zero, rw_succ, Option.toList_some, Option.toList_none, List.cons_append, List.nil_append, cat_int, cat_ref, cat_null, iI_add, iI_sub, iI_mul, iI_neg, List.length_cons, List.length_nil, ↓reduceIte, va_rf_some]
  refine k_marks hK hT h z1b (fun V' A' P' e' q1 q2 => ?_)
  obtain ⟨r1, r2, r3⟩ := lw_mid q2 hv hr
  rw [r1]
  simp (disch := first | assumption | omega | exact isB_z | exact isB_o | exact iI_in' (by assumption) (by omega) (by omega) | exact cat_int _ | exact cat_ref _ | exact cat_null | decide) only [↓x_133_213, ↓x_133_214, ↓x_133_215, ↓x_133_216, ↓x_133_217, ↓x_133_218, up1_same, up1_ne, up1_up1, us_0, us_1, us_2, us_3, us_4, us_5, us_6, us_7, us_8, us_9, us_10, us_11, rw_zero, rw_succ, Option.toList_some, Option.toList_none, List.cons_append, List.nil_append, cat_int, cat_ref, cat_null, iI_add, iI_sub, iI_mul, iI_neg, List.length_cons, List.length_nil, ↓reduceIte, va_rf_some, iI_cl, r3, e1]
  simp (disch := first | assumption | omega | exact isB_z | exact isB_o | exact iI_in' (by assumption) (by omega) (by omega) | exact cat_int _ | exact cat_ref _ | exact cat_null | decide) only [↓x_133_219, up1_same, up1_ne, up1_up1, us_0, us_1, us_2, us_3, us_4, us_5, us_6, us_7, us_8, us_9, us_10, us_11, rw_zero, rw_succ, Option.toList_some, Option.toList_none, List.cons_append, List.nil_append, cat_int, cat_ref, cat_null, iI_add, iI_sub, iI_mul, iI_neg, List.length_cons, List.length_nil, ↓reduceIte, va_rf_some]
  refine km_marks hM hS r2 z1b (fun g' A2 u1 u2 => ?_)
  simp (disch := first | assumption | omega | exact isB_z | exact isB_o | exact iI_in' (by assumption) (by omega) (by omega) | exact cat_int _ | exact cat_ref _ | exact cat_null | decide) only [↓x_133_222, up1_same, up1_ne, up1_up1, us_0, us_1, us_2, us_3, us_4, us_5, us_6, us_7, us_8, us_9, us_10, us_11, rw_zero, rw_succ, Option.toList_some, Option.toList_none, List.cons_append, List.nil_append, cat_int, cat_ref, cat_null, iI_add, iI_sub, iI_mul, iI_neg, List.length_cons, List.length_nil, ↓reduceIte, va_rf_some]
  exact hN _ A2 P' (lw_end hT hs q1 q2 u1 u2)
set_option maxHeartbeats 400000 in
theorem lw_flips {i L : Nat} (hK : exK t) (hM : mK t) (hsc : kd t 2 = 10 ∧ ln t 2 = L) (hi : i + 5 ≤ L) (hL : L ≤ 2560) (hI : lwI xs t V A P) (hN : ∀ (V' : Nat → Nat → Value) (A' : Nat → Nat → Int32) (P' : Nat → Nat → Option Nat), lwI xs t V' A' P' → Ev 40 133 655 [.ref 2, .ref 3, .ref 62, .int (iI i)] [] (t, V', A', P') Q) : Ev 40 133 227 [.ref 2, .ref 3, .ref 62, .int (iI i)] [] (t, V, A, P) Q := by
  obtain ⟨S, e, g, h, hv, hr, hT, hs⟩ := hI
  have hS := h.wfS
  obtain ⟨s1, s2⟩ := hsc
  have k3 := hK.1
  have k62 := hM.1
  obtain ⟨z1, z1a, z1c, e1⟩ := iI_of (A 2 ((i : Int) + 1).toNat)
  have z1b : -2147483648 ≤ z1 ∧ z1 < 2147483648 := ⟨z1a, z1c⟩
  simp (disch := first | assumption | omega | exact isB_z | exact isB_o | exact iI_in' (by assumption) (by omega) (by omega) | exact cat_int _ | exact cat_ref _ | exact cat_null | decide) only [↓x_133_227, ↓x_133_228, ↓x_133_229, ↓x_133_230, ↓x_133_231, ↓x_133_232, up1_same, up1_ne, up1_up1, us_0, us_1, us_2, us_3, us_4, us_5, us_6, us_7, us_8, us_9, us_10, us_11, rw_zero, rw_succ, Option.toList_some, Option.toList_none, List.cons_append, List.nil_append, cat_int, cat_ref, cat_null, iI_add, iI_sub, iI_mul, iI_neg, List.length_cons, List.length_nil, ↓reduceIte, va_rf_some, iI_cl, e1]
  simp (disch := first | assumption | omega | exact isB_z | exact isB_o | exact iI_in' (by assumption) (by omega) (by omega) | exact cat_int _ | exact cat_ref _ | exact cat_null | decide) only [↓x_133_233, up1_same, up1_ne, up1_up1, us_0, us_1, us_2, us_3, us_4, us_5, us_6, us_7, us_8, us_9, us_10, us_11, rw_zero, rw_succ, Option.toList_some, Option.toList_none, List.cons_append, List.nil_append, cat_int, cat_ref, cat_null, iI_add, iI_sub, iI_mul, iI_neg, List.length_cons, List.length_nil, ↓reduceIte, va_rf_some]
  refine k_flips hK h z1b (fun V' A' P' e' q1 q2 => ?_)
  obtain ⟨r1, r2, r3⟩ := lw_mid q2 hv hr
  rw [r1]
  simp (disch := first | assumption | omega | exact isB_z | exact isB_o | exact iI_in' (by assumption) (by omega) (by omega) | exact cat_int _ | exact cat_ref _ | exact cat_null | decide) only [↓x_133_236, ↓x_133_237, ↓x_133_238, ↓x_133_239, ↓x_133_240, ↓x_133_241, up1_same, up1_ne, up1_up1, us_0, us_1, us_2, us_3, us_4, us_5, us_6, us_7, us_8, us_9, us_10, us_11, rw_zero, rw_succ, Option.toList_some, Option.toList_none, List.cons_append, List.nil_append, cat_int, cat_ref, cat_null, iI_add, iI_sub, iI_mul, iI_neg, List.length_cons, List.length_nil, ↓reduceIte, va_rf_some, iI_cl, r3, e1]
  simp (disch := first | assumption | omega | exact isB_z | exact isB_o | exact iI_in' (by assumption) (by omega) (by omega) | exact cat_int _ | exact cat_ref _ | exact cat_null | decide) only [↓x_133_242, up1_same, up1_ne, up1_up1, us_0, us_1, us_2, us_3, us_4, us_5, us_6, us_7, us_8, us_9, us_10, us_11, rw_zero, rw_succ, Option.toList_some, Option.toList_none, List.cons_append, List.nil_append, cat_int, cat_ref, cat_null, iI_add, iI_sub, iI_mul, iI_neg, List.length_cons, List.length_nil, ↓reduceIte, va_rf_some]
  refine km_flips hM hS r2 z1b (fun g' A2 u1 u2 => ?_)
  simp (disch := first | assumption | omega | exact isB_z | exact isB_o | exact iI_in' (by assumption) (by omega) (by omega) | exact cat_int _ | exact cat_ref _ | exact cat_null | decide) only [↓x_133_245, up1_same, up1_ne, up1_up1, us_0, us_1, us_2, us_3, us_4, us_5, us_6, us_7, us_8, us_9, us_10, us_11, rw_zero, rw_succ, Option.toList_some, Option.toList_none, List.cons_append, List.nil_append, cat_int, cat_ref, cat_null, iI_add, iI_sub, iI_mul, iI_neg, List.length_cons, List.length_nil, ↓reduceIte, va_rf_some]
  exact hN _ A2 P' (lw_end hT hs q1 q2 u1 u2)
set_option maxHeartbeats 400000 in
theorem lw_clears {i L : Nat} (hK : exK t) (hM : mK t) (hsc : kd t 2 = 10 ∧ ln t 2 = L) (hi : i + 5 ≤ L) (hL : L ≤ 2560) (hI : lwI xs t V A P) (hN : ∀ (V' : Nat → Nat → Value) (A' : Nat → Nat → Int32) (P' : Nat → Nat → Option Nat), lwI xs t V' A' P' → Ev 40 133 655 [.ref 2, .ref 3, .ref 62, .int (iI i)] [] (t, V', A', P') Q) : Ev 40 133 250 [.ref 2, .ref 3, .ref 62, .int (iI i)] [] (t, V, A, P) Q := by
  obtain ⟨S, e, g, h, hv, hr, hT, hs⟩ := hI
  have hS := h.wfS
  obtain ⟨s1, s2⟩ := hsc
  have k3 := hK.1
  have k62 := hM.1
  simp (disch := first | assumption | omega | exact isB_z | exact isB_o | exact iI_in' (by assumption) (by omega) (by omega) | exact cat_int _ | exact cat_ref _ | exact cat_null | decide) only [↓x_133_250, up1_same, up1_ne, up1_up1, us_0, us_1, us_2, us_3, us_4, us_5, us_6, us_7, us_8, us_9, us_10, us_11, rw_zero, rw_succ, Option.toList_some, Option.toList_none, List.cons_append, List.nil_append, cat_int, cat_ref, cat_null, iI_add, iI_sub, iI_mul, iI_neg, List.length_cons, List.length_nil, ↓reduceIte, va_rf_some, iI_cl]
  simp (disch := first | assumption | omega | exact isB_z | exact isB_o | exact iI_in' (by assumption) (by omega) (by omega) | exact cat_int _ | exact cat_ref _ | exact cat_null | decide) only [↓x_133_251, up1_same, up1_ne, up1_up1, us_0, us_1, us_2, us_3, us_4, us_5, us_6, us_7, us_8, us_9, us_10, us_11, rw_zero, rw_succ, Option.toList_some, Option.toList_none, List.cons_append, List.nil_append, cat_int, cat_ref, cat_null, iI_add, iI_sub, iI_mul, iI_neg, List.length_cons, List.length_nil, ↓reduceIte, va_rf_some]
  refine k_clears hK h (fun V' A' P' e' q1 q2 => ?_)
  obtain ⟨r1, r2, r3⟩ := lw_mid q2 hv hr
  rw [r1]
  simp (disch := first | assumption | omega | exact isB_z | exact isB_o | exact iI_in' (by assumption) (by omega) (by omega) | exact cat_int _ | exact cat_ref _ | exact cat_null | decide) only [↓x_133_254, up1_same, up1_ne, up1_up1, us_0, us_1, us_2, us_3, us_4, us_5, us_6, us_7, us_8, us_9, us_10, us_11, rw_zero, rw_succ, Option.toList_some, Option.toList_none, List.cons_append, List.nil_append, cat_int, cat_ref, cat_null, iI_add, iI_sub, iI_mul, iI_neg, List.length_cons, List.length_nil, ↓reduceIte, va_rf_some, iI_cl, r3]
  simp (disch := first | assumption | omega | exact isB_z | exact isB_o | exact iI_in' (by assumption) (by omega) (by omega) | exact cat_int _ | exact cat_ref _ | exact cat_null | decide) only [↓x_133_255, up1_same, up1_ne, up1_up1, us_0, us_1, us_2, us_3, us_4, us_5, us_6, us_7, us_8, us_9, us_10, us_11, rw_zero, rw_succ, Option.toList_some, Option.toList_none, List.cons_append, List.nil_append, cat_int, cat_ref, cat_null, iI_add, iI_sub, iI_mul, iI_neg, List.length_cons, List.length_nil, ↓reduceIte, va_rf_some]
  refine km_clears hM hS r2 (fun g' A2 u1 u2 => ?_)
  simp (disch := first | assumption | omega | exact isB_z | exact isB_o | exact iI_in' (by assumption) (by omega) (by omega) | exact cat_int _ | exact cat_ref _ | exact cat_null | decide) only [↓x_133_258, up1_same, up1_ne, up1_up1, us_0, us_1, us_2, us_3, us_4, us_5, us_6, us_7, us_8, us_9, us_10, us_11, rw_zero, rw_succ, Option.toList_some, Option.toList_none, List.cons_append, List.nil_append, cat_int, cat_ref, cat_null, iI_add, iI_sub, iI_mul, iI_neg, List.length_cons, List.length_nil, ↓reduceIte, va_rf_some]
  exact hN _ A2 P' (lw_end hT hs q1 q2 u1 u2)
set_option maxHeartbeats 400000 in
theorem lw_undo {i L : Nat} (hK : exK t) (hM : mK t) (hsc : kd t 2 = 10 ∧ ln t 2 = L) (hi : i + 5 ≤ L) (hL : L ≤ 2560) (hI : lwI xs t V A P) (hN : ∀ (V' : Nat → Nat → Value) (A' : Nat → Nat → Int32) (P' : Nat → Nat → Option Nat), lwI xs t V' A' P' → Ev 40 133 655 [.ref 2, .ref 3, .ref 62, .int (iI i)] [] (t, V', A', P') Q) : Ev 40 133 263 [.ref 2, .ref 3, .ref 62, .int (iI i)] [] (t, V, A, P) Q := by
  obtain ⟨S, e, g, h, hv, hr, hT, hs⟩ := hI
  have hS := h.wfS
  obtain ⟨s1, s2⟩ := hsc
  have k3 := hK.1
  have k62 := hM.1
  simp (disch := first | assumption | omega | exact isB_z | exact isB_o | exact iI_in' (by assumption) (by omega) (by omega) | exact cat_int _ | exact cat_ref _ | exact cat_null | decide) only [↓x_133_263, up1_same, up1_ne, up1_up1, us_0, us_1, us_2, us_3, us_4, us_5, us_6, us_7, us_8, us_9, us_10, us_11, rw_zero, rw_succ, Option.toList_some, Option.toList_none, List.cons_append, List.nil_append, cat_int, cat_ref, cat_null, iI_add, iI_sub, iI_mul, iI_neg, List.length_cons, List.length_nil, ↓reduceIte, va_rf_some, iI_cl]
  simp (disch := first | assumption | omega | exact isB_z | exact isB_o | exact iI_in' (by assumption) (by omega) (by omega) | exact cat_int _ | exact cat_ref _ | exact cat_null | decide) only [↓x_133_264, up1_same, up1_ne, up1_up1, us_0, us_1, us_2, us_3, us_4, us_5, us_6, us_7, us_8, us_9, us_10, us_11, rw_zero, rw_succ, Option.toList_some, Option.toList_none, List.cons_append, List.nil_append, cat_int, cat_ref, cat_null, iI_add, iI_sub, iI_mul, iI_neg, List.length_cons, List.length_nil, ↓reduceIte, va_rf_some]
  refine k_undo hK h (fun V' A' P' e' q1 q2 => ?_)
  obtain ⟨r1, r2, r3⟩ := lw_mid q2 hv hr
  rw [r1]
  simp (disch := first | assumption | omega | exact isB_z | exact isB_o | exact iI_in' (by assumption) (by omega) (by omega) | exact cat_int _ | exact cat_ref _ | exact cat_null | decide) only [↓x_133_267, up1_same, up1_ne, up1_up1, us_0, us_1, us_2, us_3, us_4, us_5, us_6, us_7, us_8, us_9, us_10, us_11, rw_zero, rw_succ, Option.toList_some, Option.toList_none, List.cons_append, List.nil_append, cat_int, cat_ref, cat_null, iI_add, iI_sub, iI_mul, iI_neg, List.length_cons, List.length_nil, ↓reduceIte, va_rf_some, iI_cl, r3]
  simp (disch := first | assumption | omega | exact isB_z | exact isB_o | exact iI_in' (by assumption) (by omega) (by omega) | exact cat_int _ | exact cat_ref _ | exact cat_null | decide) only [↓x_133_268, up1_same, up1_ne, up1_up1, us_0, us_1, us_2, us_3, us_4, us_5, us_6, us_7, us_8, us_9, us_10, us_11, rw_zero, rw_succ, Option.toList_some, Option.toList_none, List.cons_append, List.nil_append, cat_int, cat_ref, cat_null, iI_add, iI_sub, iI_mul, iI_neg, List.length_cons, List.length_nil, ↓reduceIte, va_rf_some]
  refine km_undo hM hS r2 (fun g' A2 u1 u2 => ?_)
  simp (disch := first | assumption | omega | exact isB_z | exact isB_o | exact iI_in' (by assumption) (by omega) (by omega) | exact cat_int _ | exact cat_ref _ | exact cat_null | decide) only [↓x_133_271, up1_same, up1_ne, up1_up1, us_0, us_1, us_2, us_3, us_4, us_5, us_6, us_7, us_8, us_9, us_10, us_11, rw_zero, rw_succ, Option.toList_some, Option.toList_none, List.cons_append, List.nil_append, cat_int, cat_ref, cat_null, iI_add, iI_sub, iI_mul, iI_neg, List.length_cons, List.length_nil, ↓reduceIte, va_rf_some]
  exact hN _ A2 P' (lw_end hT hs q1 q2 u1 u2)
set_option maxHeartbeats 400000 in
theorem lw_form {i L : Nat} (hK : exK t) (hM : mK t) (hsc : kd t 2 = 10 ∧ ln t 2 = L) (hi : i + 5 ≤ L) (hL : L ≤ 2560) (hI : lwI xs t V A P) (hN : ∀ (V' : Nat → Nat → Value) (A' : Nat → Nat → Int32) (P' : Nat → Nat → Option Nat), lwI xs t V' A' P' → Ev 40 133 655 [.ref 2, .ref 3, .ref 62, .int (iI i)] [] (t, V', A', P') Q) : Ev 40 133 276 [.ref 2, .ref 3, .ref 62, .int (iI i)] [] (t, V, A, P) Q := by
  obtain ⟨S, e, g, h, hv, hr, hT, hs⟩ := hI
  have hS := h.wfS
  obtain ⟨s1, s2⟩ := hsc
  have k3 := hK.1
  have k62 := hM.1
  obtain ⟨z1, z1a, z1c, e1⟩ := iI_of (A 2 ((i : Int) + 1).toNat)
  have z1b : -2147483648 ≤ z1 ∧ z1 < 2147483648 := ⟨z1a, z1c⟩
  obtain ⟨z2, z2a, z2c, e2⟩ := iI_of (A 2 ((i : Int) + 2).toNat)
  have z2b : -2147483648 ≤ z2 ∧ z2 < 2147483648 := ⟨z2a, z2c⟩
  simp (disch := first | assumption | omega | exact isB_z | exact isB_o | exact iI_in' (by assumption) (by omega) (by omega) | exact cat_int _ | exact cat_ref _ | exact cat_null | decide) only [↓x_133_276, ↓x_133_277, ↓x_133_278, ↓x_133_279, ↓x_133_280, ↓x_133_281, ↓x_133_282, ↓x_133_283, ↓x_133_284, ↓x_133_285, ↓x_133_286, up1_same, up1_ne, up1_up1, us_0, us_1, us_2, us_3, us_4, us_5, us_6, us_7, us_8, us_9, us_10, us_11, rw_zero, rw_succ, Option.toList_some, Option.toList_none, List.cons_append, List.nil_append, cat_int, cat_ref, cat_null, iI_add, iI_sub, iI_mul, iI_neg, List.length_cons, List.length_nil, ↓reduceIte, va_rf_some, iI_cl, e1, e2]
  simp (disch := first | assumption | omega | exact isB_z | exact isB_o | exact iI_in' (by assumption) (by omega) (by omega) | exact cat_int _ | exact cat_ref _ | exact cat_null | decide) only [↓x_133_287, up1_same, up1_ne, up1_up1, us_0, us_1, us_2, us_3, us_4, us_5, us_6, us_7, us_8, us_9, us_10, us_11, rw_zero, rw_succ, Option.toList_some, Option.toList_none, List.cons_append, List.nil_append, cat_int, cat_ref, cat_null, iI_add, iI_sub, iI_mul, iI_neg, List.length_cons, List.length_nil, ↓reduceIte, va_rf_some]
  refine kq_form hK hT h z1b z2b (fun V' A' P' e' q1 q2 => ?_)
  obtain ⟨r1, r2, r3⟩ := lw_mid q2 hv hr
  rw [r1]
  simp (disch := first | assumption | omega | exact isB_z | exact isB_o | exact iI_in' (by assumption) (by omega) (by omega) | exact cat_int _ | exact cat_ref _ | exact cat_null | decide) only [↓x_133_290, ↓x_133_291, ↓x_133_292, ↓x_133_293, ↓x_133_294, ↓x_133_295, ↓x_133_296, ↓x_133_297, ↓x_133_298, ↓x_133_299, ↓x_133_300, up1_same, up1_ne, up1_up1, us_0, us_1, us_2, us_3, us_4, us_5, us_6, us_7, us_8, us_9, us_10, us_11, rw_zero, rw_succ, Option.toList_some, Option.toList_none, List.cons_append, List.nil_append, cat_int, cat_ref, cat_null, iI_add, iI_sub, iI_mul, iI_neg, List.length_cons, List.length_nil, ↓reduceIte, va_rf_some, iI_cl, r3, e1, e2]
  simp (disch := first | assumption | omega | exact isB_z | exact isB_o | exact iI_in' (by assumption) (by omega) (by omega) | exact cat_int _ | exact cat_ref _ | exact cat_null | decide) only [↓x_133_301, up1_same, up1_ne, up1_up1, us_0, us_1, us_2, us_3, us_4, us_5, us_6, us_7, us_8, us_9, us_10, us_11, rw_zero, rw_succ, Option.toList_some, Option.toList_none, List.cons_append, List.nil_append, cat_int, cat_ref, cat_null, iI_add, iI_sub, iI_mul, iI_neg, List.length_cons, List.length_nil, ↓reduceIte, va_rf_some]
  refine km_form hM r2 z1b z2b (fun g' A2 u1 u2 => ?_)
  simp (disch := first | assumption | omega | exact isB_z | exact isB_o | exact iI_in' (by assumption) (by omega) (by omega) | exact cat_int _ | exact cat_ref _ | exact cat_null | decide) only [↓x_133_304, up1_same, up1_ne, up1_up1, us_0, us_1, us_2, us_3, us_4, us_5, us_6, us_7, us_8, us_9, us_10, us_11, rw_zero, rw_succ, Option.toList_some, Option.toList_none, List.cons_append, List.nil_append, cat_int, cat_ref, cat_null, iI_add, iI_sub, iI_mul, iI_neg, List.length_cons, List.length_nil, ↓reduceIte, va_rf_some]
  exact hN _ A2 P' (lw_end hT hs q1 q2 u1 u2)
set_option maxHeartbeats 400000 in
theorem lw_bit {i L : Nat} (hK : exK t) (hM : mK t) (hsc : kd t 2 = 10 ∧ ln t 2 = L) (hi : i + 5 ≤ L) (hL : L ≤ 2560) (hI : lwI xs t V A P) (hN : ∀ (V' : Nat → Nat → Value) (A' : Nat → Nat → Int32) (P' : Nat → Nat → Option Nat), lwI xs t V' A' P' → Ev 40 133 655 [.ref 2, .ref 3, .ref 62, .int (iI i)] [] (t, V', A', P') Q) : Ev 40 133 309 [.ref 2, .ref 3, .ref 62, .int (iI i)] [] (t, V, A, P) Q := by
  obtain ⟨S, e, g, h, hv, hr, hT, hs⟩ := hI
  have hS := h.wfS
  obtain ⟨s1, s2⟩ := hsc
  have k3 := hK.1
  have k62 := hM.1
  obtain ⟨z1, z1a, z1c, e1⟩ := iI_of (A 2 ((i : Int) + 1).toNat)
  have z1b : -2147483648 ≤ z1 ∧ z1 < 2147483648 := ⟨z1a, z1c⟩
  simp (disch := first | assumption | omega | exact isB_z | exact isB_o | exact iI_in' (by assumption) (by omega) (by omega) | exact cat_int _ | exact cat_ref _ | exact cat_null | decide) only [↓x_133_309, ↓x_133_310, ↓x_133_311, ↓x_133_312, ↓x_133_313, ↓x_133_314, up1_same, up1_ne, up1_up1, us_0, us_1, us_2, us_3, us_4, us_5, us_6, us_7, us_8, us_9, us_10, us_11, rw_zero, rw_succ, Option.toList_some, Option.toList_none, List.cons_append, List.nil_append, cat_int, cat_ref, cat_null, iI_add, iI_sub, iI_mul, iI_neg, List.length_cons, List.length_nil, ↓reduceIte, va_rf_some, iI_cl, e1]
  simp (disch := first | assumption | omega | exact isB_z | exact isB_o | exact iI_in' (by assumption) (by omega) (by omega) | exact cat_int _ | exact cat_ref _ | exact cat_null | decide) only [↓x_133_315, up1_same, up1_ne, up1_up1, us_0, us_1, us_2, us_3, us_4, us_5, us_6, us_7, us_8, us_9, us_10, us_11, rw_zero, rw_succ, Option.toList_some, Option.toList_none, List.cons_append, List.nil_append, cat_int, cat_ref, cat_null, iI_add, iI_sub, iI_mul, iI_neg, List.length_cons, List.length_nil, ↓reduceIte, va_rf_some]
  refine kq_bit hK hT h z1b (fun V' A' P' e' q1 q2 => ?_)
  obtain ⟨r1, r2, r3⟩ := lw_mid q2 hv hr
  rw [r1]
  simp (disch := first | assumption | omega | exact isB_z | exact isB_o | exact iI_in' (by assumption) (by omega) (by omega) | exact cat_int _ | exact cat_ref _ | exact cat_null | decide) only [↓x_133_318, ↓x_133_319, ↓x_133_320, ↓x_133_321, ↓x_133_322, ↓x_133_323, up1_same, up1_ne, up1_up1, us_0, us_1, us_2, us_3, us_4, us_5, us_6, us_7, us_8, us_9, us_10, us_11, rw_zero, rw_succ, Option.toList_some, Option.toList_none, List.cons_append, List.nil_append, cat_int, cat_ref, cat_null, iI_add, iI_sub, iI_mul, iI_neg, List.length_cons, List.length_nil, ↓reduceIte, va_rf_some, iI_cl, r3, e1]
  simp (disch := first | assumption | omega | exact isB_z | exact isB_o | exact iI_in' (by assumption) (by omega) (by omega) | exact cat_int _ | exact cat_ref _ | exact cat_null | decide) only [↓x_133_324, up1_same, up1_ne, up1_up1, us_0, us_1, us_2, us_3, us_4, us_5, us_6, us_7, us_8, us_9, us_10, us_11, rw_zero, rw_succ, Option.toList_some, Option.toList_none, List.cons_append, List.nil_append, cat_int, cat_ref, cat_null, iI_add, iI_sub, iI_mul, iI_neg, List.length_cons, List.length_nil, ↓reduceIte, va_rf_some]
  refine km_bit hM hS r2 z1b (fun g' A2 u1 u2 => ?_)
  simp (disch := first | assumption | omega | exact isB_z | exact isB_o | exact iI_in' (by assumption) (by omega) (by omega) | exact cat_int _ | exact cat_ref _ | exact cat_null | decide) only [↓x_133_327, up1_same, up1_ne, up1_up1, us_0, us_1, us_2, us_3, us_4, us_5, us_6, us_7, us_8, us_9, us_10, us_11, rw_zero, rw_succ, Option.toList_some, Option.toList_none, List.cons_append, List.nil_append, cat_int, cat_ref, cat_null, iI_add, iI_sub, iI_mul, iI_neg, List.length_cons, List.length_nil, ↓reduceIte, va_rf_some]
  exact hN _ A2 P' (lw_end hT hs q1 q2 u1 u2)
set_option maxHeartbeats 400000 in
theorem lw_word {i L : Nat} (hK : exK t) (hM : mK t) (hsc : kd t 2 = 10 ∧ ln t 2 = L) (hi : i + 5 ≤ L) (hL : L ≤ 2560) (hI : lwI xs t V A P) (hN : ∀ (V' : Nat → Nat → Value) (A' : Nat → Nat → Int32) (P' : Nat → Nat → Option Nat), lwI xs t V' A' P' → Ev 40 133 655 [.ref 2, .ref 3, .ref 62, .int (iI i)] [] (t, V', A', P') Q) : Ev 40 133 332 [.ref 2, .ref 3, .ref 62, .int (iI i)] [] (t, V, A, P) Q := by
  obtain ⟨S, e, g, h, hv, hr, hT, hs⟩ := hI
  have hS := h.wfS
  obtain ⟨s1, s2⟩ := hsc
  have k3 := hK.1
  have k62 := hM.1
  obtain ⟨z1, z1a, z1c, e1⟩ := iI_of (A 2 ((i : Int) + 1).toNat)
  have z1b : -2147483648 ≤ z1 ∧ z1 < 2147483648 := ⟨z1a, z1c⟩
  simp (disch := first | assumption | omega | exact isB_z | exact isB_o | exact iI_in' (by assumption) (by omega) (by omega) | exact cat_int _ | exact cat_ref _ | exact cat_null | decide) only [↓x_133_332, ↓x_133_333, ↓x_133_334, ↓x_133_335, ↓x_133_336, ↓x_133_337, up1_same, up1_ne, up1_up1, us_0, us_1, us_2, us_3, us_4, us_5, us_6, us_7, us_8, us_9, us_10, us_11, rw_zero, rw_succ, Option.toList_some, Option.toList_none, List.cons_append, List.nil_append, cat_int, cat_ref, cat_null, iI_add, iI_sub, iI_mul, iI_neg, List.length_cons, List.length_nil, ↓reduceIte, va_rf_some, iI_cl, e1]
  simp (disch := first | assumption | omega | exact isB_z | exact isB_o | exact iI_in' (by assumption) (by omega) (by omega) | exact cat_int _ | exact cat_ref _ | exact cat_null | decide) only [↓x_133_338, up1_same, up1_ne, up1_up1, us_0, us_1, us_2, us_3, us_4, us_5, us_6, us_7, us_8, us_9, us_10, us_11, rw_zero, rw_succ, Option.toList_some, Option.toList_none, List.cons_append, List.nil_append, cat_int, cat_ref, cat_null, iI_add, iI_sub, iI_mul, iI_neg, List.length_cons, List.length_nil, ↓reduceIte, va_rf_some]
  refine kq_word hK hT h z1b (fun V' A' P' e' q1 q2 => ?_)
  obtain ⟨r1, r2, r3⟩ := lw_mid q2 hv hr
  rw [r1]
  simp (disch := first | assumption | omega | exact isB_z | exact isB_o | exact iI_in' (by assumption) (by omega) (by omega) | exact cat_int _ | exact cat_ref _ | exact cat_null | decide) only [↓x_133_341, ↓x_133_342, ↓x_133_343, ↓x_133_344, ↓x_133_345, ↓x_133_346, up1_same, up1_ne, up1_up1, us_0, us_1, us_2, us_3, us_4, us_5, us_6, us_7, us_8, us_9, us_10, us_11, rw_zero, rw_succ, Option.toList_some, Option.toList_none, List.cons_append, List.nil_append, cat_int, cat_ref, cat_null, iI_add, iI_sub, iI_mul, iI_neg, List.length_cons, List.length_nil, ↓reduceIte, va_rf_some, iI_cl, r3, e1]
  simp (disch := first | assumption | omega | exact isB_z | exact isB_o | exact iI_in' (by assumption) (by omega) (by omega) | exact cat_int _ | exact cat_ref _ | exact cat_null | decide) only [↓x_133_347, up1_same, up1_ne, up1_up1, us_0, us_1, us_2, us_3, us_4, us_5, us_6, us_7, us_8, us_9, us_10, us_11, rw_zero, rw_succ, Option.toList_some, Option.toList_none, List.cons_append, List.nil_append, cat_int, cat_ref, cat_null, iI_add, iI_sub, iI_mul, iI_neg, List.length_cons, List.length_nil, ↓reduceIte, va_rf_some]
  refine km_word hM hS r2 z1b (fun g' A2 u1 u2 => ?_)
  simp (disch := first | assumption | omega | exact isB_z | exact isB_o | exact iI_in' (by assumption) (by omega) (by omega) | exact cat_int _ | exact cat_ref _ | exact cat_null | decide) only [↓x_133_350, up1_same, up1_ne, up1_up1, us_0, us_1, us_2, us_3, us_4, us_5, us_6, us_7, us_8, us_9, us_10, us_11, rw_zero, rw_succ, Option.toList_some, Option.toList_none, List.cons_append, List.nil_append, cat_int, cat_ref, cat_null, iI_add, iI_sub, iI_mul, iI_neg, List.length_cons, List.length_nil, ↓reduceIte, va_rf_some]
  exact hN _ A2 P' (lw_end hT hs q1 q2 u1 u2)
set_option maxHeartbeats 400000 in
theorem lw_recent {i L : Nat} (hK : exK t) (hM : mK t) (hsc : kd t 2 = 10 ∧ ln t 2 = L) (hi : i + 5 ≤ L) (hL : L ≤ 2560) (hI : lwI xs t V A P) (hN : ∀ (V' : Nat → Nat → Value) (A' : Nat → Nat → Int32) (P' : Nat → Nat → Option Nat), lwI xs t V' A' P' → Ev 40 133 655 [.ref 2, .ref 3, .ref 62, .int (iI i)] [] (t, V', A', P') Q) : Ev 40 133 355 [.ref 2, .ref 3, .ref 62, .int (iI i)] [] (t, V, A, P) Q := by
  obtain ⟨S, e, g, h, hv, hr, hT, hs⟩ := hI
  have hS := h.wfS
  obtain ⟨s1, s2⟩ := hsc
  have k3 := hK.1
  have k62 := hM.1
  obtain ⟨z1, z1a, z1c, e1⟩ := iI_of (A 2 ((i : Int) + 1).toNat)
  have z1b : -2147483648 ≤ z1 ∧ z1 < 2147483648 := ⟨z1a, z1c⟩
  simp (disch := first | assumption | omega | exact isB_z | exact isB_o | exact iI_in' (by assumption) (by omega) (by omega) | exact cat_int _ | exact cat_ref _ | exact cat_null | decide) only [↓x_133_355, ↓x_133_356, ↓x_133_357, ↓x_133_358, ↓x_133_359, ↓x_133_360, up1_same, up1_ne, up1_up1, us_0, us_1, us_2, us_3, us_4, us_5, us_6, us_7, us_8, us_9, us_10, us_11, rw_zero, rw_succ, Option.toList_some, Option.toList_none, List.cons_append, List.nil_append, cat_int, cat_ref, cat_null, iI_add, iI_sub, iI_mul, iI_neg, List.length_cons, List.length_nil, ↓reduceIte, va_rf_some, iI_cl, e1]
  simp (disch := first | assumption | omega | exact isB_z | exact isB_o | exact iI_in' (by assumption) (by omega) (by omega) | exact cat_int _ | exact cat_ref _ | exact cat_null | decide) only [↓x_133_361, up1_same, up1_ne, up1_up1, us_0, us_1, us_2, us_3, us_4, us_5, us_6, us_7, us_8, us_9, us_10, us_11, rw_zero, rw_succ, Option.toList_some, Option.toList_none, List.cons_append, List.nil_append, cat_int, cat_ref, cat_null, iI_add, iI_sub, iI_mul, iI_neg, List.length_cons, List.length_nil, ↓reduceIte, va_rf_some]
  refine kq_recent hK hT h z1b (fun V' A' P' e' q1 q2 => ?_)
  obtain ⟨r1, r2, r3⟩ := lw_mid q2 hv hr
  rw [r1]
  simp (disch := first | assumption | omega | exact isB_z | exact isB_o | exact iI_in' (by assumption) (by omega) (by omega) | exact cat_int _ | exact cat_ref _ | exact cat_null | decide) only [↓x_133_364, ↓x_133_365, ↓x_133_366, ↓x_133_367, ↓x_133_368, ↓x_133_369, up1_same, up1_ne, up1_up1, us_0, us_1, us_2, us_3, us_4, us_5, us_6, us_7, us_8, us_9, us_10, us_11, rw_zero, rw_succ, Option.toList_some, Option.toList_none, List.cons_append, List.nil_append, cat_int, cat_ref, cat_null, iI_add, iI_sub, iI_mul, iI_neg, List.length_cons, List.length_nil, ↓reduceIte, va_rf_some, iI_cl, r3, e1]
  simp (disch := first | assumption | omega | exact isB_z | exact isB_o | exact iI_in' (by assumption) (by omega) (by omega) | exact cat_int _ | exact cat_ref _ | exact cat_null | decide) only [↓x_133_370, up1_same, up1_ne, up1_up1, us_0, us_1, us_2, us_3, us_4, us_5, us_6, us_7, us_8, us_9, us_10, us_11, rw_zero, rw_succ, Option.toList_some, Option.toList_none, List.cons_append, List.nil_append, cat_int, cat_ref, cat_null, iI_add, iI_sub, iI_mul, iI_neg, List.length_cons, List.length_nil, ↓reduceIte, va_rf_some]
  refine km_recent hM hS r2 z1b (fun g' A2 u1 u2 => ?_)
  simp (disch := first | assumption | omega | exact isB_z | exact isB_o | exact iI_in' (by assumption) (by omega) (by omega) | exact cat_int _ | exact cat_ref _ | exact cat_null | decide) only [↓x_133_373, up1_same, up1_ne, up1_up1, us_0, us_1, us_2, us_3, us_4, us_5, us_6, us_7, us_8, us_9, us_10, us_11, rw_zero, rw_succ, Option.toList_some, Option.toList_none, List.cons_append, List.nil_append, cat_int, cat_ref, cat_null, iI_add, iI_sub, iI_mul, iI_neg, List.length_cons, List.length_nil, ↓reduceIte, va_rf_some]
  exact hN _ A2 P' (lw_end hT hs q1 q2 u1 u2)
set_option maxHeartbeats 400000 in
theorem lw_piece {i L : Nat} (hK : exK t) (hM : mK t) (hsc : kd t 2 = 10 ∧ ln t 2 = L) (hi : i + 5 ≤ L) (hL : L ≤ 2560) (hI : lwI xs t V A P) (hN : ∀ (V' : Nat → Nat → Value) (A' : Nat → Nat → Int32) (P' : Nat → Nat → Option Nat), lwI xs t V' A' P' → Ev 40 133 655 [.ref 2, .ref 3, .ref 62, .int (iI i)] [] (t, V', A', P') Q) : Ev 40 133 378 [.ref 2, .ref 3, .ref 62, .int (iI i)] [] (t, V, A, P) Q := by
  obtain ⟨S, e, g, h, hv, hr, hT, hs⟩ := hI
  have hS := h.wfS
  obtain ⟨s1, s2⟩ := hsc
  have k3 := hK.1
  have k62 := hM.1
  obtain ⟨z1, z1a, z1c, e1⟩ := iI_of (A 2 ((i : Int) + 1).toNat)
  have z1b : -2147483648 ≤ z1 ∧ z1 < 2147483648 := ⟨z1a, z1c⟩
  obtain ⟨z2, z2a, z2c, e2⟩ := iI_of (A 2 ((i : Int) + 2).toNat)
  have z2b : -2147483648 ≤ z2 ∧ z2 < 2147483648 := ⟨z2a, z2c⟩
  obtain ⟨z3, z3a, z3c, e3⟩ := iI_of (A 2 ((i : Int) + 3).toNat)
  have z3b : -2147483648 ≤ z3 ∧ z3 < 2147483648 := ⟨z3a, z3c⟩
  obtain ⟨z4, z4a, z4c, e4⟩ := iI_of (A 2 ((i : Int) + 4).toNat)
  have z4b : -2147483648 ≤ z4 ∧ z4 < 2147483648 := ⟨z4a, z4c⟩
  simp (disch := first | assumption | omega | exact isB_z | exact isB_o | exact iI_in' (by assumption) (by omega) (by omega) | exact cat_int _ | exact cat_ref _ | exact cat_null | decide) only [↓x_133_378, ↓x_133_379, ↓x_133_380, ↓x_133_381, ↓x_133_382, ↓x_133_383, ↓x_133_384, ↓x_133_385, ↓x_133_386, ↓x_133_387, ↓x_133_388, ↓x_133_389, ↓x_133_390, ↓x_133_391, ↓x_133_392, ↓x_133_393, ↓x_133_394, ↓x_133_395, ↓x_133_396, ↓x_133_397, ↓x_133_398, up1_same, up1_ne, up1_up1, us_0, us_1, us_2, us_3, us_4, us_5, us_6, us_7, us_8, us_9, us_10, us_11, rw_zero, rw_succ, Option.toList_some, Option.toList_none, List.cons_append, List.nil_append, cat_int, cat_ref, cat_null, iI_add, iI_sub, iI_mul, iI_neg, List.length_cons, List.length_nil, ↓reduceIte, va_rf_some, iI_cl, e1, e2, e3, e4]
  simp (disch := first | assumption | omega | exact isB_z | exact isB_o | exact iI_in' (by assumption) (by omega) (by omega) | exact cat_int _ | exact cat_ref _ | exact cat_null | decide) only [↓x_133_399, up1_same, up1_ne, up1_up1, us_0, us_1, us_2, us_3, us_4, us_5, us_6, us_7, us_8, us_9, us_10, us_11, rw_zero, rw_succ, Option.toList_some, Option.toList_none, List.cons_append, List.nil_append, cat_int, cat_ref, cat_null, iI_add, iI_sub, iI_mul, iI_neg, List.length_cons, List.length_nil, ↓reduceIte, va_rf_some]
  refine kq_piece hK hT h z1b z2b z3b z4b (fun V' A' P' e' q1 q2 => ?_)
  obtain ⟨r1, r2, r3⟩ := lw_mid q2 hv hr
  rw [r1]
  simp (disch := first | assumption | omega | exact isB_z | exact isB_o | exact iI_in' (by assumption) (by omega) (by omega) | exact cat_int _ | exact cat_ref _ | exact cat_null | decide) only [↓x_133_402, ↓x_133_403, ↓x_133_404, ↓x_133_405, ↓x_133_406, ↓x_133_407, ↓x_133_408, ↓x_133_409, ↓x_133_410, ↓x_133_411, ↓x_133_412, ↓x_133_413, ↓x_133_414, ↓x_133_415, ↓x_133_416, ↓x_133_417, ↓x_133_418, ↓x_133_419, ↓x_133_420, ↓x_133_421, ↓x_133_422, up1_same, up1_ne, up1_up1, us_0, us_1, us_2, us_3, us_4, us_5, us_6, us_7, us_8, us_9, us_10, us_11, rw_zero, rw_succ, Option.toList_some, Option.toList_none, List.cons_append, List.nil_append, cat_int, cat_ref, cat_null, iI_add, iI_sub, iI_mul, iI_neg, List.length_cons, List.length_nil, ↓reduceIte, va_rf_some, iI_cl, r3, e1, e2, e3, e4]
  simp (disch := first | assumption | omega | exact isB_z | exact isB_o | exact iI_in' (by assumption) (by omega) (by omega) | exact cat_int _ | exact cat_ref _ | exact cat_null | decide) only [↓x_133_423, up1_same, up1_ne, up1_up1, us_0, us_1, us_2, us_3, us_4, us_5, us_6, us_7, us_8, us_9, us_10, us_11, rw_zero, rw_succ, Option.toList_some, Option.toList_none, List.cons_append, List.nil_append, cat_int, cat_ref, cat_null, iI_add, iI_sub, iI_mul, iI_neg, List.length_cons, List.length_nil, ↓reduceIte, va_rf_some]
  refine km_piece hM hS r2 z1b z2b z3b z4b (fun g' A2 u1 u2 => ?_)
  simp (disch := first | assumption | omega | exact isB_z | exact isB_o | exact iI_in' (by assumption) (by omega) (by omega) | exact cat_int _ | exact cat_ref _ | exact cat_null | decide) only [↓x_133_426, up1_same, up1_ne, up1_up1, us_0, us_1, us_2, us_3, us_4, us_5, us_6, us_7, us_8, us_9, us_10, us_11, rw_zero, rw_succ, Option.toList_some, Option.toList_none, List.cons_append, List.nil_append, cat_int, cat_ref, cat_null, iI_add, iI_sub, iI_mul, iI_neg, List.length_cons, List.length_nil, ↓reduceIte, va_rf_some]
  exact hN _ A2 P' (lw_end hT hs q1 q2 u1 u2)
set_option maxHeartbeats 400000 in
theorem lw_read {i L : Nat} (hK : exK t) (hM : mK t) (hsc : kd t 2 = 10 ∧ ln t 2 = L) (hi : i + 5 ≤ L) (hL : L ≤ 2560) (hI : lwI xs t V A P) (hN : ∀ (V' : Nat → Nat → Value) (A' : Nat → Nat → Int32) (P' : Nat → Nat → Option Nat), lwI xs t V' A' P' → Ev 40 133 655 [.ref 2, .ref 3, .ref 62, .int (iI i)] [] (t, V', A', P') Q) : Ev 40 133 431 [.ref 2, .ref 3, .ref 62, .int (iI i)] [] (t, V, A, P) Q := by
  obtain ⟨S, e, g, h, hv, hr, hT, hs⟩ := hI
  have hS := h.wfS
  obtain ⟨s1, s2⟩ := hsc
  have k3 := hK.1
  have k62 := hM.1
  obtain ⟨z1, z1a, z1c, e1⟩ := iI_of (A 2 ((i : Int) + 1).toNat)
  have z1b : -2147483648 ≤ z1 ∧ z1 < 2147483648 := ⟨z1a, z1c⟩
  obtain ⟨z2, z2a, z2c, e2⟩ := iI_of (A 2 ((i : Int) + 2).toNat)
  have z2b : -2147483648 ≤ z2 ∧ z2 < 2147483648 := ⟨z2a, z2c⟩
  obtain ⟨z3, z3a, z3c, e3⟩ := iI_of (A 2 ((i : Int) + 3).toNat)
  have z3b : -2147483648 ≤ z3 ∧ z3 < 2147483648 := ⟨z3a, z3c⟩
  simp (disch := first | assumption | omega | exact isB_z | exact isB_o | exact iI_in' (by assumption) (by omega) (by omega) | exact cat_int _ | exact cat_ref _ | exact cat_null | decide) only [↓x_133_431, ↓x_133_432, ↓x_133_433, ↓x_133_434, ↓x_133_435, ↓x_133_436, ↓x_133_437, ↓x_133_438, ↓x_133_439, ↓x_133_440, ↓x_133_441, ↓x_133_442, ↓x_133_443, ↓x_133_444, ↓x_133_445, ↓x_133_446, up1_same, up1_ne, up1_up1, us_0, us_1, us_2, us_3, us_4, us_5, us_6, us_7, us_8, us_9, us_10, us_11, rw_zero, rw_succ, Option.toList_some, Option.toList_none, List.cons_append, List.nil_append, cat_int, cat_ref, cat_null, iI_add, iI_sub, iI_mul, iI_neg, List.length_cons, List.length_nil, ↓reduceIte, va_rf_some, iI_cl, e1, e2, e3]
  simp (disch := first | assumption | omega | exact isB_z | exact isB_o | exact iI_in' (by assumption) (by omega) (by omega) | exact cat_int _ | exact cat_ref _ | exact cat_null | decide) only [↓x_133_447, up1_same, up1_ne, up1_up1, us_0, us_1, us_2, us_3, us_4, us_5, us_6, us_7, us_8, us_9, us_10, us_11, rw_zero, rw_succ, Option.toList_some, Option.toList_none, List.cons_append, List.nil_append, cat_int, cat_ref, cat_null, iI_add, iI_sub, iI_mul, iI_neg, List.length_cons, List.length_nil, ↓reduceIte, va_rf_some]
  refine kq_read hK hT h z1b z2b z3b (fun V' A' P' e' q1 q2 => ?_)
  obtain ⟨r1, r2, r3⟩ := lw_mid q2 hv hr
  rw [r1]
  simp (disch := first | assumption | omega | exact isB_z | exact isB_o | exact iI_in' (by assumption) (by omega) (by omega) | exact cat_int _ | exact cat_ref _ | exact cat_null | decide) only [↓x_133_450, ↓x_133_451, ↓x_133_452, ↓x_133_453, ↓x_133_454, ↓x_133_455, ↓x_133_456, ↓x_133_457, ↓x_133_458, ↓x_133_459, ↓x_133_460, ↓x_133_461, ↓x_133_462, ↓x_133_463, ↓x_133_464, ↓x_133_465, up1_same, up1_ne, up1_up1, us_0, us_1, us_2, us_3, us_4, us_5, us_6, us_7, us_8, us_9, us_10, us_11, rw_zero, rw_succ, Option.toList_some, Option.toList_none, List.cons_append, List.nil_append, cat_int, cat_ref, cat_null, iI_add, iI_sub, iI_mul, iI_neg, List.length_cons, List.length_nil, ↓reduceIte, va_rf_some, iI_cl, r3, e1, e2, e3]
  simp (disch := first | assumption | omega | exact isB_z | exact isB_o | exact iI_in' (by assumption) (by omega) (by omega) | exact cat_int _ | exact cat_ref _ | exact cat_null | decide) only [↓x_133_466, up1_same, up1_ne, up1_up1, us_0, us_1, us_2, us_3, us_4, us_5, us_6, us_7, us_8, us_9, us_10, us_11, rw_zero, rw_succ, Option.toList_some, Option.toList_none, List.cons_append, List.nil_append, cat_int, cat_ref, cat_null, iI_add, iI_sub, iI_mul, iI_neg, List.length_cons, List.length_nil, ↓reduceIte, va_rf_some]
  refine km_read hM hS r2 z1b z2b z3b (fun g' A2 u1 u2 => ?_)
  simp (disch := first | assumption | omega | exact isB_z | exact isB_o | exact iI_in' (by assumption) (by omega) (by omega) | exact cat_int _ | exact cat_ref _ | exact cat_null | decide) only [↓x_133_469, up1_same, up1_ne, up1_up1, us_0, us_1, us_2, us_3, us_4, us_5, us_6, us_7, us_8, us_9, us_10, us_11, rw_zero, rw_succ, Option.toList_some, Option.toList_none, List.cons_append, List.nil_append, cat_int, cat_ref, cat_null, iI_add, iI_sub, iI_mul, iI_neg, List.length_cons, List.length_nil, ↓reduceIte, va_rf_some]
  exact hN _ A2 P' (lw_end hT hs q1 q2 u1 u2)
set_option maxHeartbeats 400000 in
theorem lw_cuts {i L : Nat} (hK : exK t) (hM : mK t) (hsc : kd t 2 = 10 ∧ ln t 2 = L) (hi : i + 5 ≤ L) (hL : L ≤ 2560) (hI : lwI xs t V A P) (hN : ∀ (V' : Nat → Nat → Value) (A' : Nat → Nat → Int32) (P' : Nat → Nat → Option Nat), lwI xs t V' A' P' → Ev 40 133 655 [.ref 2, .ref 3, .ref 62, .int (iI i)] [] (t, V', A', P') Q) : Ev 40 133 474 [.ref 2, .ref 3, .ref 62, .int (iI i)] [] (t, V, A, P) Q := by
  obtain ⟨S, e, g, h, hv, hr, hT, hs⟩ := hI
  have hS := h.wfS
  obtain ⟨s1, s2⟩ := hsc
  have k3 := hK.1
  have k62 := hM.1
  obtain ⟨z1, z1a, z1c, e1⟩ := iI_of (A 2 ((i : Int) + 1).toNat)
  have z1b : -2147483648 ≤ z1 ∧ z1 < 2147483648 := ⟨z1a, z1c⟩
  simp (disch := first | assumption | omega | exact isB_z | exact isB_o | exact iI_in' (by assumption) (by omega) (by omega) | exact cat_int _ | exact cat_ref _ | exact cat_null | decide) only [↓x_133_474, ↓x_133_475, ↓x_133_476, ↓x_133_477, ↓x_133_478, ↓x_133_479, up1_same, up1_ne, up1_up1, us_0, us_1, us_2, us_3, us_4, us_5, us_6, us_7, us_8, us_9, us_10, us_11, rw_zero, rw_succ, Option.toList_some, Option.toList_none, List.cons_append, List.nil_append, cat_int, cat_ref, cat_null, iI_add, iI_sub, iI_mul, iI_neg, List.length_cons, List.length_nil, ↓reduceIte, va_rf_some, iI_cl, e1]
  simp (disch := first | assumption | omega | exact isB_z | exact isB_o | exact iI_in' (by assumption) (by omega) (by omega) | exact cat_int _ | exact cat_ref _ | exact cat_null | decide) only [↓x_133_480, up1_same, up1_ne, up1_up1, us_0, us_1, us_2, us_3, us_4, us_5, us_6, us_7, us_8, us_9, us_10, us_11, rw_zero, rw_succ, Option.toList_some, Option.toList_none, List.cons_append, List.nil_append, cat_int, cat_ref, cat_null, iI_add, iI_sub, iI_mul, iI_neg, List.length_cons, List.length_nil, ↓reduceIte, va_rf_some]
  refine kq_cuts hK hT h z1b (fun V' A' P' e' q1 q2 => ?_)
  obtain ⟨r1, r2, r3⟩ := lw_mid q2 hv hr
  rw [r1]
  simp (disch := first | assumption | omega | exact isB_z | exact isB_o | exact iI_in' (by assumption) (by omega) (by omega) | exact cat_int _ | exact cat_ref _ | exact cat_null | decide) only [↓x_133_483, ↓x_133_484, ↓x_133_485, ↓x_133_486, ↓x_133_487, ↓x_133_488, up1_same, up1_ne, up1_up1, us_0, us_1, us_2, us_3, us_4, us_5, us_6, us_7, us_8, us_9, us_10, us_11, rw_zero, rw_succ, Option.toList_some, Option.toList_none, List.cons_append, List.nil_append, cat_int, cat_ref, cat_null, iI_add, iI_sub, iI_mul, iI_neg, List.length_cons, List.length_nil, ↓reduceIte, va_rf_some, iI_cl, r3, e1]
  simp (disch := first | assumption | omega | exact isB_z | exact isB_o | exact iI_in' (by assumption) (by omega) (by omega) | exact cat_int _ | exact cat_ref _ | exact cat_null | decide) only [↓x_133_489, up1_same, up1_ne, up1_up1, us_0, us_1, us_2, us_3, us_4, us_5, us_6, us_7, us_8, us_9, us_10, us_11, rw_zero, rw_succ, Option.toList_some, Option.toList_none, List.cons_append, List.nil_append, cat_int, cat_ref, cat_null, iI_add, iI_sub, iI_mul, iI_neg, List.length_cons, List.length_nil, ↓reduceIte, va_rf_some]
  refine km_cuts hM hS r2 z1b (fun g' A2 u1 u2 => ?_)
  simp (disch := first | assumption | omega | exact isB_z | exact isB_o | exact iI_in' (by assumption) (by omega) (by omega) | exact cat_int _ | exact cat_ref _ | exact cat_null | decide) only [↓x_133_492, up1_same, up1_ne, up1_up1, us_0, us_1, us_2, us_3, us_4, us_5, us_6, us_7, us_8, us_9, us_10, us_11, rw_zero, rw_succ, Option.toList_some, Option.toList_none, List.cons_append, List.nil_append, cat_int, cat_ref, cat_null, iI_add, iI_sub, iI_mul, iI_neg, List.length_cons, List.length_nil, ↓reduceIte, va_rf_some]
  exact hN _ A2 P' (lw_end hT hs q1 q2 u1 u2)
set_option maxHeartbeats 400000 in
theorem lw_level {i L : Nat} (hK : exK t) (hM : mK t) (hsc : kd t 2 = 10 ∧ ln t 2 = L) (hi : i + 5 ≤ L) (hL : L ≤ 2560) (hI : lwI xs t V A P) (hN : ∀ (V' : Nat → Nat → Value) (A' : Nat → Nat → Int32) (P' : Nat → Nat → Option Nat), lwI xs t V' A' P' → Ev 40 133 655 [.ref 2, .ref 3, .ref 62, .int (iI i)] [] (t, V', A', P') Q) : Ev 40 133 497 [.ref 2, .ref 3, .ref 62, .int (iI i)] [] (t, V, A, P) Q := by
  obtain ⟨S, e, g, h, hv, hr, hT, hs⟩ := hI
  have hS := h.wfS
  obtain ⟨s1, s2⟩ := hsc
  have k3 := hK.1
  have k62 := hM.1
  obtain ⟨z1, z1a, z1c, e1⟩ := iI_of (A 2 ((i : Int) + 1).toNat)
  have z1b : -2147483648 ≤ z1 ∧ z1 < 2147483648 := ⟨z1a, z1c⟩
  obtain ⟨z2, z2a, z2c, e2⟩ := iI_of (A 2 ((i : Int) + 2).toNat)
  have z2b : -2147483648 ≤ z2 ∧ z2 < 2147483648 := ⟨z2a, z2c⟩
  simp (disch := first | assumption | omega | exact isB_z | exact isB_o | exact iI_in' (by assumption) (by omega) (by omega) | exact cat_int _ | exact cat_ref _ | exact cat_null | decide) only [↓x_133_497, ↓x_133_498, ↓x_133_499, ↓x_133_500, ↓x_133_501, ↓x_133_502, ↓x_133_503, ↓x_133_504, ↓x_133_505, ↓x_133_506, ↓x_133_507, up1_same, up1_ne, up1_up1, us_0, us_1, us_2, us_3, us_4, us_5, us_6, us_7, us_8, us_9, us_10, us_11, rw_zero, rw_succ, Option.toList_some, Option.toList_none, List.cons_append, List.nil_append, cat_int, cat_ref, cat_null, iI_add, iI_sub, iI_mul, iI_neg, List.length_cons, List.length_nil, ↓reduceIte, va_rf_some, iI_cl, e1, e2]
  simp (disch := first | assumption | omega | exact isB_z | exact isB_o | exact iI_in' (by assumption) (by omega) (by omega) | exact cat_int _ | exact cat_ref _ | exact cat_null | decide) only [↓x_133_508, up1_same, up1_ne, up1_up1, us_0, us_1, us_2, us_3, us_4, us_5, us_6, us_7, us_8, us_9, us_10, us_11, rw_zero, rw_succ, Option.toList_some, Option.toList_none, List.cons_append, List.nil_append, cat_int, cat_ref, cat_null, iI_add, iI_sub, iI_mul, iI_neg, List.length_cons, List.length_nil, ↓reduceIte, va_rf_some]
  refine kq_level hK hT h z1b z2b (fun V' A' P' e' q1 q2 => ?_)
  obtain ⟨r1, r2, r3⟩ := lw_mid q2 hv hr
  rw [r1]
  simp (disch := first | assumption | omega | exact isB_z | exact isB_o | exact iI_in' (by assumption) (by omega) (by omega) | exact cat_int _ | exact cat_ref _ | exact cat_null | decide) only [↓x_133_511, ↓x_133_512, ↓x_133_513, ↓x_133_514, ↓x_133_515, ↓x_133_516, ↓x_133_517, ↓x_133_518, ↓x_133_519, ↓x_133_520, ↓x_133_521, up1_same, up1_ne, up1_up1, us_0, us_1, us_2, us_3, us_4, us_5, us_6, us_7, us_8, us_9, us_10, us_11, rw_zero, rw_succ, Option.toList_some, Option.toList_none, List.cons_append, List.nil_append, cat_int, cat_ref, cat_null, iI_add, iI_sub, iI_mul, iI_neg, List.length_cons, List.length_nil, ↓reduceIte, va_rf_some, iI_cl, r3, e1, e2]
  simp (disch := first | assumption | omega | exact isB_z | exact isB_o | exact iI_in' (by assumption) (by omega) (by omega) | exact cat_int _ | exact cat_ref _ | exact cat_null | decide) only [↓x_133_522, up1_same, up1_ne, up1_up1, us_0, us_1, us_2, us_3, us_4, us_5, us_6, us_7, us_8, us_9, us_10, us_11, rw_zero, rw_succ, Option.toList_some, Option.toList_none, List.cons_append, List.nil_append, cat_int, cat_ref, cat_null, iI_add, iI_sub, iI_mul, iI_neg, List.length_cons, List.length_nil, ↓reduceIte, va_rf_some]
  refine km_level hM hS r2 z1b z2b (fun g' A2 u1 u2 => ?_)
  simp (disch := first | assumption | omega | exact isB_z | exact isB_o | exact iI_in' (by assumption) (by omega) (by omega) | exact cat_int _ | exact cat_ref _ | exact cat_null | decide) only [↓x_133_525, up1_same, up1_ne, up1_up1, us_0, us_1, us_2, us_3, us_4, us_5, us_6, us_7, us_8, us_9, us_10, us_11, rw_zero, rw_succ, Option.toList_some, Option.toList_none, List.cons_append, List.nil_append, cat_int, cat_ref, cat_null, iI_add, iI_sub, iI_mul, iI_neg, List.length_cons, List.length_nil, ↓reduceIte, va_rf_some]
  exact hN _ A2 P' (lw_end hT hs q1 q2 u1 u2)
set_option maxHeartbeats 400000 in
theorem lw_evenest {i L : Nat} (hK : exK t) (hM : mK t) (hsc : kd t 2 = 10 ∧ ln t 2 = L) (hi : i + 5 ≤ L) (hL : L ≤ 2560) (hI : lwI xs t V A P) (hN : ∀ (V' : Nat → Nat → Value) (A' : Nat → Nat → Int32) (P' : Nat → Nat → Option Nat), lwI xs t V' A' P' → Ev 40 133 655 [.ref 2, .ref 3, .ref 62, .int (iI i)] [] (t, V', A', P') Q) : Ev 40 133 530 [.ref 2, .ref 3, .ref 62, .int (iI i)] [] (t, V, A, P) Q := by
  obtain ⟨S, e, g, h, hv, hr, hT, hs⟩ := hI
  have hS := h.wfS
  obtain ⟨s1, s2⟩ := hsc
  have k3 := hK.1
  have k62 := hM.1
  obtain ⟨z1, z1a, z1c, e1⟩ := iI_of (A 2 ((i : Int) + 1).toNat)
  have z1b : -2147483648 ≤ z1 ∧ z1 < 2147483648 := ⟨z1a, z1c⟩
  obtain ⟨z2, z2a, z2c, e2⟩ := iI_of (A 2 ((i : Int) + 2).toNat)
  have z2b : -2147483648 ≤ z2 ∧ z2 < 2147483648 := ⟨z2a, z2c⟩
  simp (disch := first | assumption | omega | exact isB_z | exact isB_o | exact iI_in' (by assumption) (by omega) (by omega) | exact cat_int _ | exact cat_ref _ | exact cat_null | decide) only [↓x_133_530, ↓x_133_531, ↓x_133_532, ↓x_133_533, ↓x_133_534, ↓x_133_535, ↓x_133_536, ↓x_133_537, ↓x_133_538, ↓x_133_539, ↓x_133_540, up1_same, up1_ne, up1_up1, us_0, us_1, us_2, us_3, us_4, us_5, us_6, us_7, us_8, us_9, us_10, us_11, rw_zero, rw_succ, Option.toList_some, Option.toList_none, List.cons_append, List.nil_append, cat_int, cat_ref, cat_null, iI_add, iI_sub, iI_mul, iI_neg, List.length_cons, List.length_nil, ↓reduceIte, va_rf_some, iI_cl, e1, e2]
  simp (disch := first | assumption | omega | exact isB_z | exact isB_o | exact iI_in' (by assumption) (by omega) (by omega) | exact cat_int _ | exact cat_ref _ | exact cat_null | decide) only [↓x_133_541, up1_same, up1_ne, up1_up1, us_0, us_1, us_2, us_3, us_4, us_5, us_6, us_7, us_8, us_9, us_10, us_11, rw_zero, rw_succ, Option.toList_some, Option.toList_none, List.cons_append, List.nil_append, cat_int, cat_ref, cat_null, iI_add, iI_sub, iI_mul, iI_neg, List.length_cons, List.length_nil, ↓reduceIte, va_rf_some]
  refine kq_evenest hK hT h z1b z2b (fun V' A' P' e' q1 q2 => ?_)
  obtain ⟨r1, r2, r3⟩ := lw_mid q2 hv hr
  rw [r1]
  simp (disch := first | assumption | omega | exact isB_z | exact isB_o | exact iI_in' (by assumption) (by omega) (by omega) | exact cat_int _ | exact cat_ref _ | exact cat_null | decide) only [↓x_133_544, ↓x_133_545, ↓x_133_546, ↓x_133_547, ↓x_133_548, ↓x_133_549, ↓x_133_550, ↓x_133_551, ↓x_133_552, ↓x_133_553, ↓x_133_554, up1_same, up1_ne, up1_up1, us_0, us_1, us_2, us_3, us_4, us_5, us_6, us_7, us_8, us_9, us_10, us_11, rw_zero, rw_succ, Option.toList_some, Option.toList_none, List.cons_append, List.nil_append, cat_int, cat_ref, cat_null, iI_add, iI_sub, iI_mul, iI_neg, List.length_cons, List.length_nil, ↓reduceIte, va_rf_some, iI_cl, r3, e1, e2]
  simp (disch := first | assumption | omega | exact isB_z | exact isB_o | exact iI_in' (by assumption) (by omega) (by omega) | exact cat_int _ | exact cat_ref _ | exact cat_null | decide) only [↓x_133_555, up1_same, up1_ne, up1_up1, us_0, us_1, us_2, us_3, us_4, us_5, us_6, us_7, us_8, us_9, us_10, us_11, rw_zero, rw_succ, Option.toList_some, Option.toList_none, List.cons_append, List.nil_append, cat_int, cat_ref, cat_null, iI_add, iI_sub, iI_mul, iI_neg, List.length_cons, List.length_nil, ↓reduceIte, va_rf_some]
  refine kmq_evenest (A 21) hM hS r2 z1b z2b (fun g' A2 u1 u2 => ?_)
  simp (disch := first | assumption | omega | exact isB_z | exact isB_o | exact iI_in' (by assumption) (by omega) (by omega) | exact cat_int _ | exact cat_ref _ | exact cat_null | decide) only [↓x_133_558, up1_same, up1_ne, up1_up1, us_0, us_1, us_2, us_3, us_4, us_5, us_6, us_7, us_8, us_9, us_10, us_11, rw_zero, rw_succ, Option.toList_some, Option.toList_none, List.cons_append, List.nil_append, cat_int, cat_ref, cat_null, iI_add, iI_sub, iI_mul, iI_neg, List.length_cons, List.length_nil, ↓reduceIte, va_rf_some]
  exact hN _ A2 P' (lw_end hT hs q1 q2 u1 u2)
set_option maxHeartbeats 400000 in
theorem lw_weight {i L : Nat} (hK : exK t) (hM : mK t) (hsc : kd t 2 = 10 ∧ ln t 2 = L) (hi : i + 5 ≤ L) (hL : L ≤ 2560) (hI : lwI xs t V A P) (hN : ∀ (V' : Nat → Nat → Value) (A' : Nat → Nat → Int32) (P' : Nat → Nat → Option Nat), lwI xs t V' A' P' → Ev 40 133 655 [.ref 2, .ref 3, .ref 62, .int (iI i)] [] (t, V', A', P') Q) : Ev 40 133 563 [.ref 2, .ref 3, .ref 62, .int (iI i)] [] (t, V, A, P) Q := by
  obtain ⟨S, e, g, h, hv, hr, hT, hs⟩ := hI
  have hS := h.wfS
  obtain ⟨s1, s2⟩ := hsc
  have k3 := hK.1
  have k62 := hM.1
  obtain ⟨z1, z1a, z1c, e1⟩ := iI_of (A 2 ((i : Int) + 1).toNat)
  have z1b : -2147483648 ≤ z1 ∧ z1 < 2147483648 := ⟨z1a, z1c⟩
  simp (disch := first | assumption | omega | exact isB_z | exact isB_o | exact iI_in' (by assumption) (by omega) (by omega) | exact cat_int _ | exact cat_ref _ | exact cat_null | decide) only [↓x_133_563, ↓x_133_564, ↓x_133_565, ↓x_133_566, ↓x_133_567, ↓x_133_568, up1_same, up1_ne, up1_up1, us_0, us_1, us_2, us_3, us_4, us_5, us_6, us_7, us_8, us_9, us_10, us_11, rw_zero, rw_succ, Option.toList_some, Option.toList_none, List.cons_append, List.nil_append, cat_int, cat_ref, cat_null, iI_add, iI_sub, iI_mul, iI_neg, List.length_cons, List.length_nil, ↓reduceIte, va_rf_some, iI_cl, e1]
  simp (disch := first | assumption | omega | exact isB_z | exact isB_o | exact iI_in' (by assumption) (by omega) (by omega) | exact cat_int _ | exact cat_ref _ | exact cat_null | decide) only [↓x_133_569, up1_same, up1_ne, up1_up1, us_0, us_1, us_2, us_3, us_4, us_5, us_6, us_7, us_8, us_9, us_10, us_11, rw_zero, rw_succ, Option.toList_some, Option.toList_none, List.cons_append, List.nil_append, cat_int, cat_ref, cat_null, iI_add, iI_sub, iI_mul, iI_neg, List.length_cons, List.length_nil, ↓reduceIte, va_rf_some]
  refine kq_weight hK hT h z1b (fun V' A' P' e' q1 q2 => ?_)
  obtain ⟨r1, r2, r3⟩ := lw_mid q2 hv hr
  rw [r1]
  simp (disch := first | assumption | omega | exact isB_z | exact isB_o | exact iI_in' (by assumption) (by omega) (by omega) | exact cat_int _ | exact cat_ref _ | exact cat_null | decide) only [↓x_133_572, ↓x_133_573, ↓x_133_574, ↓x_133_575, ↓x_133_576, ↓x_133_577, up1_same, up1_ne, up1_up1, us_0, us_1, us_2, us_3, us_4, us_5, us_6, us_7, us_8, us_9, us_10, us_11, rw_zero, rw_succ, Option.toList_some, Option.toList_none, List.cons_append, List.nil_append, cat_int, cat_ref, cat_null, iI_add, iI_sub, iI_mul, iI_neg, List.length_cons, List.length_nil, ↓reduceIte, va_rf_some, iI_cl, r3, e1]
  simp (disch := first | assumption | omega | exact isB_z | exact isB_o | exact iI_in' (by assumption) (by omega) (by omega) | exact cat_int _ | exact cat_ref _ | exact cat_null | decide) only [↓x_133_578, up1_same, up1_ne, up1_up1, us_0, us_1, us_2, us_3, us_4, us_5, us_6, us_7, us_8, us_9, us_10, us_11, rw_zero, rw_succ, Option.toList_some, Option.toList_none, List.cons_append, List.nil_append, cat_int, cat_ref, cat_null, iI_add, iI_sub, iI_mul, iI_neg, List.length_cons, List.length_nil, ↓reduceIte, va_rf_some]
  refine km_weight hM hS r2 z1b (fun g' A2 u1 u2 => ?_)
  simp (disch := first | assumption | omega | exact isB_z | exact isB_o | exact iI_in' (by assumption) (by omega) (by omega) | exact cat_int _ | exact cat_ref _ | exact cat_null | decide) only [↓x_133_581, up1_same, up1_ne, up1_up1, us_0, us_1, us_2, us_3, us_4, us_5, us_6, us_7, us_8, us_9, us_10, us_11, rw_zero, rw_succ, Option.toList_some, Option.toList_none, List.cons_append, List.nil_append, cat_int, cat_ref, cat_null, iI_add, iI_sub, iI_mul, iI_neg, List.length_cons, List.length_nil, ↓reduceIte, va_rf_some]
  exact hN _ A2 P' (lw_end hT hs q1 q2 u1 u2)
set_option maxHeartbeats 400000 in
theorem lw_keep {i L : Nat} (hK : exK t) (hM : mK t) (hsc : kd t 2 = 10 ∧ ln t 2 = L) (hi : i + 5 ≤ L) (hL : L ≤ 2560) (hI : lwI xs t V A P) (hN : ∀ (V' : Nat → Nat → Value) (A' : Nat → Nat → Int32) (P' : Nat → Nat → Option Nat), lwI xs t V' A' P' → Ev 40 133 655 [.ref 2, .ref 3, .ref 62, .int (iI i)] [] (t, V', A', P') Q) : Ev 40 133 586 [.ref 2, .ref 3, .ref 62, .int (iI i)] [] (t, V, A, P) Q := by
  obtain ⟨S, e, g, h, hv, hr, hT, hs⟩ := hI
  have hS := h.wfS
  obtain ⟨s1, s2⟩ := hsc
  have k3 := hK.1
  have k62 := hM.1
  obtain ⟨z1, z1a, z1c, e1⟩ := iI_of (A 2 ((i : Int) + 1).toNat)
  have z1b : -2147483648 ≤ z1 ∧ z1 < 2147483648 := ⟨z1a, z1c⟩
  simp (disch := first | assumption | omega | exact isB_z | exact isB_o | exact iI_in' (by assumption) (by omega) (by omega) | exact cat_int _ | exact cat_ref _ | exact cat_null | decide) only [↓x_133_586, ↓x_133_587, ↓x_133_588, ↓x_133_589, ↓x_133_590, ↓x_133_591, up1_same, up1_ne, up1_up1, us_0, us_1, us_2, us_3, us_4, us_5, us_6, us_7, us_8, us_9, us_10, us_11, rw_zero, rw_succ, Option.toList_some, Option.toList_none, List.cons_append, List.nil_append, cat_int, cat_ref, cat_null, iI_add, iI_sub, iI_mul, iI_neg, List.length_cons, List.length_nil, ↓reduceIte, va_rf_some, iI_cl, e1]
  simp (disch := first | assumption | omega | exact isB_z | exact isB_o | exact iI_in' (by assumption) (by omega) (by omega) | exact cat_int _ | exact cat_ref _ | exact cat_null | decide) only [↓x_133_592, up1_same, up1_ne, up1_up1, us_0, us_1, us_2, us_3, us_4, us_5, us_6, us_7, us_8, us_9, us_10, us_11, rw_zero, rw_succ, Option.toList_some, Option.toList_none, List.cons_append, List.nil_append, cat_int, cat_ref, cat_null, iI_add, iI_sub, iI_mul, iI_neg, List.length_cons, List.length_nil, ↓reduceIte, va_rf_some]
  refine k_keep hK h z1b (fun V' A' P' e' q1 q2 => ?_)
  obtain ⟨r1, r2, r3⟩ := lw_mid q2 hv hr
  rw [r1]
  simp (disch := first | assumption | omega | exact isB_z | exact isB_o | exact iI_in' (by assumption) (by omega) (by omega) | exact cat_int _ | exact cat_ref _ | exact cat_null | decide) only [↓x_133_595, ↓x_133_596, ↓x_133_597, ↓x_133_598, ↓x_133_599, ↓x_133_600, up1_same, up1_ne, up1_up1, us_0, us_1, us_2, us_3, us_4, us_5, us_6, us_7, us_8, us_9, us_10, us_11, rw_zero, rw_succ, Option.toList_some, Option.toList_none, List.cons_append, List.nil_append, cat_int, cat_ref, cat_null, iI_add, iI_sub, iI_mul, iI_neg, List.length_cons, List.length_nil, ↓reduceIte, va_rf_some, iI_cl, r3, e1]
  simp (disch := first | assumption | omega | exact isB_z | exact isB_o | exact iI_in' (by assumption) (by omega) (by omega) | exact cat_int _ | exact cat_ref _ | exact cat_null | decide) only [↓x_133_601, up1_same, up1_ne, up1_up1, us_0, us_1, us_2, us_3, us_4, us_5, us_6, us_7, us_8, us_9, us_10, us_11, rw_zero, rw_succ, Option.toList_some, Option.toList_none, List.cons_append, List.nil_append, cat_int, cat_ref, cat_null, iI_add, iI_sub, iI_mul, iI_neg, List.length_cons, List.length_nil, ↓reduceIte, va_rf_some]
  refine km_keep hM hS r2 z1b (fun g' A2 u1 u2 => ?_)
  simp (disch := first | assumption | omega | exact isB_z | exact isB_o | exact iI_in' (by assumption) (by omega) (by omega) | exact cat_int _ | exact cat_ref _ | exact cat_null | decide) only [↓x_133_604, up1_same, up1_ne, up1_up1, us_0, us_1, us_2, us_3, us_4, us_5, us_6, us_7, us_8, us_9, us_10, us_11, rw_zero, rw_succ, Option.toList_some, Option.toList_none, List.cons_append, List.nil_append, cat_int, cat_ref, cat_null, iI_add, iI_sub, iI_mul, iI_neg, List.length_cons, List.length_nil, ↓reduceIte, va_rf_some]
  exact hN _ A2 P' (lw_end hT hs q1 q2 u1 u2)
set_option maxHeartbeats 400000 in
theorem lw_back {i L : Nat} (hK : exK t) (hM : mK t) (hsc : kd t 2 = 10 ∧ ln t 2 = L) (hi : i + 5 ≤ L) (hL : L ≤ 2560) (hI : lwI xs t V A P) (hN : ∀ (V' : Nat → Nat → Value) (A' : Nat → Nat → Int32) (P' : Nat → Nat → Option Nat), lwI xs t V' A' P' → Ev 40 133 655 [.ref 2, .ref 3, .ref 62, .int (iI i)] [] (t, V', A', P') Q) : Ev 40 133 609 [.ref 2, .ref 3, .ref 62, .int (iI i)] [] (t, V, A, P) Q := by
  obtain ⟨S, e, g, h, hv, hr, hT, hs⟩ := hI
  have hS := h.wfS
  obtain ⟨s1, s2⟩ := hsc
  have k3 := hK.1
  have k62 := hM.1
  obtain ⟨z1, z1a, z1c, e1⟩ := iI_of (A 2 ((i : Int) + 1).toNat)
  have z1b : -2147483648 ≤ z1 ∧ z1 < 2147483648 := ⟨z1a, z1c⟩
  simp (disch := first | assumption | omega | exact isB_z | exact isB_o | exact iI_in' (by assumption) (by omega) (by omega) | exact cat_int _ | exact cat_ref _ | exact cat_null | decide) only [↓x_133_609, ↓x_133_610, ↓x_133_611, ↓x_133_612, ↓x_133_613, ↓x_133_614, up1_same, up1_ne, up1_up1, us_0, us_1, us_2, us_3, us_4, us_5, us_6, us_7, us_8, us_9, us_10, us_11, rw_zero, rw_succ, Option.toList_some, Option.toList_none, List.cons_append, List.nil_append, cat_int, cat_ref, cat_null, iI_add, iI_sub, iI_mul, iI_neg, List.length_cons, List.length_nil, ↓reduceIte, va_rf_some, iI_cl, e1]
  simp (disch := first | assumption | omega | exact isB_z | exact isB_o | exact iI_in' (by assumption) (by omega) (by omega) | exact cat_int _ | exact cat_ref _ | exact cat_null | decide) only [↓x_133_615, up1_same, up1_ne, up1_up1, us_0, us_1, us_2, us_3, us_4, us_5, us_6, us_7, us_8, us_9, us_10, us_11, rw_zero, rw_succ, Option.toList_some, Option.toList_none, List.cons_append, List.nil_append, cat_int, cat_ref, cat_null, iI_add, iI_sub, iI_mul, iI_neg, List.length_cons, List.length_nil, ↓reduceIte, va_rf_some]
  refine k_back hK h z1b (fun V' A' P' e' q1 q2 => ?_)
  obtain ⟨r1, r2, r3⟩ := lw_mid q2 hv hr
  rw [r1]
  simp (disch := first | assumption | omega | exact isB_z | exact isB_o | exact iI_in' (by assumption) (by omega) (by omega) | exact cat_int _ | exact cat_ref _ | exact cat_null | decide) only [↓x_133_618, ↓x_133_619, ↓x_133_620, ↓x_133_621, ↓x_133_622, ↓x_133_623, up1_same, up1_ne, up1_up1, us_0, us_1, us_2, us_3, us_4, us_5, us_6, us_7, us_8, us_9, us_10, us_11, rw_zero, rw_succ, Option.toList_some, Option.toList_none, List.cons_append, List.nil_append, cat_int, cat_ref, cat_null, iI_add, iI_sub, iI_mul, iI_neg, List.length_cons, List.length_nil, ↓reduceIte, va_rf_some, iI_cl, r3, e1]
  simp (disch := first | assumption | omega | exact isB_z | exact isB_o | exact iI_in' (by assumption) (by omega) (by omega) | exact cat_int _ | exact cat_ref _ | exact cat_null | decide) only [↓x_133_624, up1_same, up1_ne, up1_up1, us_0, us_1, us_2, us_3, us_4, us_5, us_6, us_7, us_8, us_9, us_10, us_11, rw_zero, rw_succ, Option.toList_some, Option.toList_none, List.cons_append, List.nil_append, cat_int, cat_ref, cat_null, iI_add, iI_sub, iI_mul, iI_neg, List.length_cons, List.length_nil, ↓reduceIte, va_rf_some]
  refine km_back hM hS r2 z1b (fun g' A2 u1 u2 => ?_)
  simp (disch := first | assumption | omega | exact isB_z | exact isB_o | exact iI_in' (by assumption) (by omega) (by omega) | exact cat_int _ | exact cat_ref _ | exact cat_null | decide) only [↓x_133_627, up1_same, up1_ne, up1_up1, us_0, us_1, us_2, us_3, us_4, us_5, us_6, us_7, us_8, us_9, us_10, us_11, rw_zero, rw_succ, Option.toList_some, Option.toList_none, List.cons_append, List.nil_append, cat_int, cat_ref, cat_null, iI_add, iI_sub, iI_mul, iI_neg, List.length_cons, List.length_nil, ↓reduceIte, va_rf_some]
  exact hN _ A2 P' (lw_end hT hs q1 q2 u1 u2)
set_option maxHeartbeats 400000 in
theorem lw_count {i L : Nat} (hK : exK t) (hM : mK t) (hsc : kd t 2 = 10 ∧ ln t 2 = L) (hi : i + 5 ≤ L) (hL : L ≤ 2560) (hI : lwI xs t V A P) (hN : ∀ (V' : Nat → Nat → Value) (A' : Nat → Nat → Int32) (P' : Nat → Nat → Option Nat), lwI xs t V' A' P' → Ev 40 133 655 [.ref 2, .ref 3, .ref 62, .int (iI i)] [] (t, V', A', P') Q) : Ev 40 133 632 [.ref 2, .ref 3, .ref 62, .int (iI i)] [] (t, V, A, P) Q := by
  obtain ⟨S, e, g, h, hv, hr, hT, hs⟩ := hI
  have hS := h.wfS
  obtain ⟨s1, s2⟩ := hsc
  have k3 := hK.1
  have k62 := hM.1
  obtain ⟨z1, z1a, z1c, e1⟩ := iI_of (A 2 ((i : Int) + 1).toNat)
  have z1b : -2147483648 ≤ z1 ∧ z1 < 2147483648 := ⟨z1a, z1c⟩
  simp (disch := first | assumption | omega | exact isB_z | exact isB_o | exact iI_in' (by assumption) (by omega) (by omega) | exact cat_int _ | exact cat_ref _ | exact cat_null | decide) only [↓x_133_632, ↓x_133_633, ↓x_133_634, ↓x_133_635, ↓x_133_636, ↓x_133_637, up1_same, up1_ne, up1_up1, us_0, us_1, us_2, us_3, us_4, us_5, us_6, us_7, us_8, us_9, us_10, us_11, rw_zero, rw_succ, Option.toList_some, Option.toList_none, List.cons_append, List.nil_append, cat_int, cat_ref, cat_null, iI_add, iI_sub, iI_mul, iI_neg, List.length_cons, List.length_nil, ↓reduceIte, va_rf_some, iI_cl, e1]
  simp (disch := first | assumption | omega | exact isB_z | exact isB_o | exact iI_in' (by assumption) (by omega) (by omega) | exact cat_int _ | exact cat_ref _ | exact cat_null | decide) only [↓x_133_638, up1_same, up1_ne, up1_up1, us_0, us_1, us_2, us_3, us_4, us_5, us_6, us_7, us_8, us_9, us_10, us_11, rw_zero, rw_succ, Option.toList_some, Option.toList_none, List.cons_append, List.nil_append, cat_int, cat_ref, cat_null, iI_add, iI_sub, iI_mul, iI_neg, List.length_cons, List.length_nil, ↓reduceIte, va_rf_some]
  refine kq_count hK hT h z1b (fun V' A' P' e' q1 q2 => ?_)
  obtain ⟨r1, r2, r3⟩ := lw_mid q2 hv hr
  rw [r1]
  simp (disch := first | assumption | omega | exact isB_z | exact isB_o | exact iI_in' (by assumption) (by omega) (by omega) | exact cat_int _ | exact cat_ref _ | exact cat_null | decide) only [↓x_133_641, ↓x_133_642, ↓x_133_643, ↓x_133_644, ↓x_133_645, ↓x_133_646, up1_same, up1_ne, up1_up1, us_0, us_1, us_2, us_3, us_4, us_5, us_6, us_7, us_8, us_9, us_10, us_11, rw_zero, rw_succ, Option.toList_some, Option.toList_none, List.cons_append, List.nil_append, cat_int, cat_ref, cat_null, iI_add, iI_sub, iI_mul, iI_neg, List.length_cons, List.length_nil, ↓reduceIte, va_rf_some, iI_cl, r3, e1]
  simp (disch := first | assumption | omega | exact isB_z | exact isB_o | exact iI_in' (by assumption) (by omega) (by omega) | exact cat_int _ | exact cat_ref _ | exact cat_null | decide) only [↓x_133_647, up1_same, up1_ne, up1_up1, us_0, us_1, us_2, us_3, us_4, us_5, us_6, us_7, us_8, us_9, us_10, us_11, rw_zero, rw_succ, Option.toList_some, Option.toList_none, List.cons_append, List.nil_append, cat_int, cat_ref, cat_null, iI_add, iI_sub, iI_mul, iI_neg, List.length_cons, List.length_nil, ↓reduceIte, va_rf_some]
  refine km_count hM hS r2 z1b (fun g' A2 u1 u2 => ?_)
  simp (disch := first | assumption | omega | exact isB_z | exact isB_o | exact iI_in' (by assumption) (by omega) (by omega) | exact cat_int _ | exact cat_ref _ | exact cat_null | decide) only [↓x_133_650, up1_same, up1_ne, up1_up1, us_0, us_1, us_2, us_3, us_4, us_5, us_6, us_7, us_8, us_9, us_10, us_11, rw_zero, rw_succ, Option.toList_some, Option.toList_none, List.cons_append, List.nil_append, cat_int, cat_ref, cat_null, iI_add, iI_sub, iI_mul, iI_neg, List.length_cons, List.length_nil, ↓reduceIte, va_rf_some]
  exact hN _ A2 P' (lw_end hT hs q1 q2 u1 u2)
end
