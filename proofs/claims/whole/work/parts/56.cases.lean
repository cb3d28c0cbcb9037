/-! THE LAW: call by call -/
section
variable {t : mL} {V : Nat → Nat → Value} {A : Nat → Nat → Int32} {P : Nat → Nat → Option Nat} {Q : Option Value → mM → Prop} {xs : Nat → Int32}
set_option maxHeartbeats 400000 in
theorem lw_type {i L : Nat} (hK : exK t) (hM : mK t) (hsc : kd t 2 = 10 ∧ ln t 2 = L) (hi : i + 5 ≤ L) (hL : L ≤ 2560) (hI : lwI xs t V A P) (hN : ∀ (V' : Nat → Nat → Value) (A' : Nat → Nat → Int32) (P' : Nat → Nat → Option Nat), lwI xs t V' A' P' → Ev 40 131 655 [.ref 2, .ref 3, .ref 62, .int (iI i)] [] (t, V', A', P') Q) : Ev 40 131 132 [.ref 2, .ref 3, .ref 62, .int (iI i)] [] (t, V, A, P) Q := by
  obtain ⟨S, e, g, h, hv, hr, hT, hs⟩ := hI
  have hS := h.wfS
  obtain ⟨s1, s2⟩ := hsc
  have k3 := hK.1
  have k62 := hM.1
  obtain ⟨z1, z1a, z1c, e1⟩ := iI_of (A 2 ((i : Int) + 1).toNat)
  have z1b : -2147483648 ≤ z1 ∧ z1 < 2147483648 := ⟨z1a, z1c⟩
  simp (disch := first | assumption | omega | exact isB_z | exact isB_o | exact iI_in' (by assumption) (by omega) (by omega) | exact cat_int _ | exact cat_ref _ | exact cat_null | decide) only [↓x_131_132, ↓x_131_133, ↓x_131_134, ↓x_131_135, ↓x_131_136, ↓x_131_137, up1_same, up1_ne, up1_up1, us_0, us_1, us_2, us_3, us_4, us_5, us_6, us_7, us_8, us_9, us_10, us_11, rw_zero, rw_succ, Option.toList_some, Option.toList_none, List.cons_append, List.nil_append, cat_int, cat_ref, cat_null, iI_add, iI_sub, iI_mul, iI_neg, List.length_cons, List.length_nil, ↓reduceIte, va_rf_some, iI_cl, e1]
  simp (disch := first | assumption | omega | exact isB_z | exact isB_o | exact iI_in' (by assumption) (by omega) (by omega) | exact cat_int _ | exact cat_ref _ | exact cat_null | decide) only [↓x_131_138, up1_same, up1_ne, up1_up1, us_0, us_1, us_2, us_3, us_4, us_5, us_6, us_7, us_8, us_9, us_10, us_11, rw_zero, rw_succ, Option.toList_some, Option.toList_none, List.cons_append, List.nil_append, cat_int, cat_ref, cat_null, iI_add, iI_sub, iI_mul, iI_neg, List.length_cons, List.length_nil, ↓reduceIte, va_rf_some]
  refine k_type hK h z1b (fun V' A' P' e' q1 q2 => ?_)
  obtain ⟨r1, r2, r3⟩ := lw_mid q2 hv hr
  rw [r1]
  simp (disch := first | assumption | omega | exact isB_z | exact isB_o | exact iI_in' (by assumption) (by omega) (by omega) | exact cat_int _ | exact cat_ref _ | exact cat_null | decide) only [↓x_131_141, ↓x_131_142, ↓x_131_143, ↓x_131_144, ↓x_131_145, ↓x_131_146, up1_same, up1_ne, up1_up1, us_0, us_1, us_2, us_3, us_4, us_5, us_6, us_7, us_8, us_9, us_10, us_11, rw_zero, rw_succ, Option.toList_some, Option.toList_none, List.cons_append, List.nil_append, cat_int, cat_ref, cat_null, iI_add, iI_sub, iI_mul, iI_neg, List.length_cons, List.length_nil, ↓reduceIte, va_rf_some, iI_cl, r3, e1]
  simp (disch := first | assumption | omega | exact isB_z | exact isB_o | exact iI_in' (by assumption) (by omega) (by omega) | exact cat_int _ | exact cat_ref _ | exact cat_null | decide) only [↓x_131_147, up1_same, up1_ne, up1_up1, us_0, us_1, us_2, us_3, us_4, us_5, us_6, us_7, us_8, us_9, us_10, us_11, rw_zero, rw_succ, Option.toList_some, Option.toList_none, List.cons_append, List.nil_append, cat_int, cat_ref, cat_null, iI_add, iI_sub, iI_mul, iI_neg, List.length_cons, List.length_nil, ↓reduceIte, va_rf_some]
  refine km_type hM hS r2 z1b (fun g' A2 u1 u2 => ?_)
  simp (disch := first | assumption | omega | exact isB_z | exact isB_o | exact iI_in' (by assumption) (by omega) (by omega) | exact cat_int _ | exact cat_ref _ | exact cat_null | decide) only [↓x_131_150, up1_same, up1_ne, up1_up1, us_0, us_1, us_2, us_3, us_4, us_5, us_6, us_7, us_8, us_9, us_10, us_11, rw_zero, rw_succ, Option.toList_some, Option.toList_none, List.cons_append, List.nil_append, cat_int, cat_ref, cat_null, iI_add, iI_sub, iI_mul, iI_neg, List.length_cons, List.length_nil, ↓reduceIte, va_rf_some]
  exact hN _ A2 P' (lw_end hT hs q1 q2 u1 u2)
set_option maxHeartbeats 400000 in
theorem lw_clear {i L : Nat} (hK : exK t) (hM : mK t) (hsc : kd t 2 = 10 ∧ ln t 2 = L) (hi : i + 5 ≤ L) (hL : L ≤ 2560) (hI : lwI xs t V A P) (hN : ∀ (V' : Nat → Nat → Value) (A' : Nat → Nat → Int32) (P' : Nat → Nat → Option Nat), lwI xs t V' A' P' → Ev 40 131 655 [.ref 2, .ref 3, .ref 62, .int (iI i)] [] (t, V', A', P') Q) : Ev 40 131 155 [.ref 2, .ref 3, .ref 62, .int (iI i)] [] (t, V, A, P) Q := by
  obtain ⟨S, e, g, h, hv, hr, hT, hs⟩ := hI
  have hS := h.wfS
  obtain ⟨s1, s2⟩ := hsc
  have k3 := hK.1
  have k62 := hM.1
  simp (disch := first | assumption | omega | exact isB_z | exact isB_o | exact iI_in' (by assumption) (by omega) (by omega) | exact cat_int _ | exact cat_ref _ | exact cat_null | decide) only [↓x_131_155, up1_same, up1_ne, up1_up1, us_0, us_1, us_2, us_3, us_4, us_5, us_6, us_7, us_8, us_9, us_10, us_11, rw_zero, rw_succ, Option.toList_some, Option.toList_none, List.cons_append, List.nil_append, cat_int, cat_ref, cat_null, iI_add, iI_sub, iI_mul, iI_neg, List.length_cons, List.length_nil, ↓reduceIte, va_rf_some, iI_cl]
  simp (disch := first | assumption | omega | exact isB_z | exact isB_o | exact iI_in' (by assumption) (by omega) (by omega) | exact cat_int _ | exact cat_ref _ | exact cat_null | decide) only [↓x_131_156, up1_same, up1_ne, up1_up1, us_0, us_1, us_2, us_3, us_4, us_5, us_6, us_7, us_8, us_9, us_10, us_11, rw_zero, rw_succ, Option.toList_some, Option.toList_none, List.cons_append, List.nil_append, cat_int, cat_ref, cat_null, iI_add, iI_sub, iI_mul, iI_neg, List.length_cons, List.length_nil, ↓reduceIte, va_rf_some]
  refine k_clear hK h (fun V' A' P' e' q1 q2 => ?_)
  obtain ⟨r1, r2, r3⟩ := lw_mid q2 hv hr
  rw [r1]
  simp (disch := first | assumption | omega | exact isB_z | exact isB_o | exact iI_in' (by assumption) (by omega) (by omega) | exact cat_int _ | exact cat_ref _ | exact cat_null | decide) only [↓x_131_159, up1_same, up1_ne, up1_up1, us_0, us_1, us_2, us_3, us_4, us_5, us_6, us_7, us_8, us_9, us_10, us_11, rw_zero, rw_succ, Option.toList_some, Option.toList_none, List.cons_append, List.nil_append, cat_int, cat_ref, cat_null, iI_add, iI_sub, iI_mul, iI_neg, List.length_cons, List.length_nil, ↓reduceIte, va_rf_some, iI_cl, r3]
  simp (disch := first | assumption | omega | exact isB_z | exact isB_o | exact iI_in' (by assumption) (by omega) (by omega) | exact cat_int _ | exact cat_ref _ | exact cat_null | decide) only [↓x_131_160, up1_same, up1_ne, up1_up1, us_0, us_1, us_2, us_3, us_4, us_5, us_6, us_7, us_8, us_9, us_10, us_11, rw_zero, rw_succ, Option.toList_some, Option.toList_none, List.cons_append, List.nil_append, cat_int, cat_ref, cat_null, iI_add, iI_sub, iI_mul, iI_neg, List.length_cons, List.length_nil, ↓reduceIte, va_rf_some]
  refine km_clear hM r2 (fun g' A2 u1 u2 => ?_)
  simp (disch := first | assumption | omega | exact isB_z | exact isB_o | exact iI_in' (by assumption) (by omega) (by omega) | exact cat_int _ | exact cat_ref _ | exact cat_null | decide) only [↓x_131_163, up1_same, up1_ne, up1_up1, us_0, us_1, us_2, us_3, us_4, us_5, us_6, us_7, us_8, us_9, us_10, us_11, rw_zero, rw_succ, Option.toList_some, Option.toList_none, List.cons_append, List.nil_append, cat_int, cat_ref, cat_null, iI_add, iI_sub, iI_mul, iI_neg, List.length_cons, List.length_nil, ↓reduceIte, va_rf_some]
  exact hN _ A2 P' (lw_end hT hs q1 q2 u1 u2)
set_option maxHeartbeats 400000 in
theorem lw_tells {i L : Nat} (hK : exK t) (hM : mK t) (hsc : kd t 2 = 10 ∧ ln t 2 = L) (hi : i + 5 ≤ L) (hL : L ≤ 2560) (hI : lwI xs t V A P) (hN : ∀ (V' : Nat → Nat → Value) (A' : Nat → Nat → Int32) (P' : Nat → Nat → Option Nat), lwI xs t V' A' P' → Ev 40 131 655 [.ref 2, .ref 3, .ref 62, .int (iI i)] [] (t, V', A', P') Q) : Ev 40 131 168 [.ref 2, .ref 3, .ref 62, .int (iI i)] [] (t, V, A, P) Q := by
  obtain ⟨S, e, g, h, hv, hr, hT, hs⟩ := hI
  have hS := h.wfS
  obtain ⟨s1, s2⟩ := hsc
  have k3 := hK.1
  have k62 := hM.1
  simp (disch := first | assumption | omega | exact isB_z | exact isB_o | exact iI_in' (by assumption) (by omega) (by omega) | exact cat_int _ | exact cat_ref _ | exact cat_null | decide) only [↓x_131_168, up1_same, up1_ne, up1_up1, us_0, us_1, us_2, us_3, us_4, us_5, us_6, us_7, us_8, us_9, us_10, us_11, rw_zero, rw_succ, Option.toList_some, Option.toList_none, List.cons_append, List.nil_append, cat_int, cat_ref, cat_null, iI_add, iI_sub, iI_mul, iI_neg, List.length_cons, List.length_nil, ↓reduceIte, va_rf_some, iI_cl]
  simp (disch := first | assumption | omega | exact isB_z | exact isB_o | exact iI_in' (by assumption) (by omega) (by omega) | exact cat_int _ | exact cat_ref _ | exact cat_null | decide) only [↓x_131_169, up1_same, up1_ne, up1_up1, us_0, us_1, us_2, us_3, us_4, us_5, us_6, us_7, us_8, us_9, us_10, us_11, rw_zero, rw_succ, Option.toList_some, Option.toList_none, List.cons_append, List.nil_append, cat_int, cat_ref, cat_null, iI_add, iI_sub, iI_mul, iI_neg, List.length_cons, List.length_nil, ↓reduceIte, va_rf_some]
  refine k_tells hK hT h (fun V' A' P' e' q1 q2 => ?_)
  obtain ⟨r1, r2, r3⟩ := lw_mid q2 hv hr
  rw [r1]
  simp (disch := first | assumption | omega | exact isB_z | exact isB_o | exact iI_in' (by assumption) (by omega) (by omega) | exact cat_int _ | exact cat_ref _ | exact cat_null | decide) only [↓x_131_172, up1_same, up1_ne, up1_up1, us_0, us_1, us_2, us_3, us_4, us_5, us_6, us_7, us_8, us_9, us_10, us_11, rw_zero, rw_succ, Option.toList_some, Option.toList_none, List.cons_append, List.nil_append, cat_int, cat_ref, cat_null, iI_add, iI_sub, iI_mul, iI_neg, List.length_cons, List.length_nil, ↓reduceIte, va_rf_some, iI_cl, r3]
  simp (disch := first | assumption | omega | exact isB_z | exact isB_o | exact iI_in' (by assumption) (by omega) (by omega) | exact cat_int _ | exact cat_ref _ | exact cat_null | decide) only [↓x_131_173, up1_same, up1_ne, up1_up1, us_0, us_1, us_2, us_3, us_4, us_5, us_6, us_7, us_8, us_9, us_10, us_11, rw_zero, rw_succ, Option.toList_some, Option.toList_none, List.cons_append, List.nil_append, cat_int, cat_ref, cat_null, iI_add, iI_sub, iI_mul, iI_neg, List.length_cons, List.length_nil, ↓reduceIte, va_rf_some]
  refine km_tells hM hS r2 (fun g' A2 u1 u2 => ?_)
  simp (disch := first | assumption | omega | exact isB_z | exact isB_o | exact iI_in' (by assumption) (by omega) (by omega) | exact cat_int _ | exact cat_ref _ | exact cat_null | decide) only [↓x_131_176, up1_same, up1_ne, up1_up1, us_0, us_1, us_2, us_3, us_4, us_5, us_6, us_7, us_8, us_9, us_10, us_11, rw_zero, rw_succ, Option.toList_some, Option.toList_none, List.cons_append, List.nil_append, cat_int, cat_ref, cat_null, iI_add, iI_sub, iI_mul, iI_neg, List.length_cons, List.length_nil, ↓reduceIte, va_rf_some]
  exact hN _ A2 P' (lw_end hT hs q1 q2 u1 u2)
set_option maxHeartbeats 400000 in
theorem lw_sends {i L : Nat} (hK : exK t) (hM : mK t) (hsc : kd t 2 = 10 ∧ ln t 2 = L) (hi : i + 5 ≤ L) (hL : L ≤ 2560) (hI : lwI xs t V A P) (hN : ∀ (V' : Nat → Nat → Value) (A' : Nat → Nat → Int32) (P' : Nat → Nat → Option Nat), lwI xs t V' A' P' → Ev 40 131 655 [.ref 2, .ref 3, .ref 62, .int (iI i)] [] (t, V', A', P') Q) : Ev 40 131 181 [.ref 2, .ref 3, .ref 62, .int (iI i)] [] (t, V, A, P) Q := by
  obtain ⟨S, e, g, h, hv, hr, hT, hs⟩ := hI
  have hS := h.wfS
  obtain ⟨s1, s2⟩ := hsc
  have k3 := hK.1
  have k62 := hM.1
  obtain ⟨z1, z1a, z1c, e1⟩ := iI_of (A 2 ((i : Int) + 1).toNat)
  have z1b : -2147483648 ≤ z1 ∧ z1 < 2147483648 := ⟨z1a, z1c⟩
  simp (disch := first | assumption | omega | exact isB_z | exact isB_o | exact iI_in' (by assumption) (by omega) (by omega) | exact cat_int _ | exact cat_ref _ | exact cat_null | decide) only [↓x_131_181, ↓x_131_182, ↓x_131_183, ↓x_131_184, ↓x_131_185, ↓x_131_186, up1_same, up1_ne, up1_up1, us_0, us_1, us_2, us_3, us_4, us_5, us_6, us_7, us_8, us_9, us_10, us_11, rw_zero, rw_succ, Option.toList_some, Option.toList_none, List.cons_append, List.nil_append, cat_int, cat_ref, cat_null, iI_add, iI_sub, iI_mul, iI_neg, List.length_cons, List.length_nil, ↓reduceIte, va_rf_some, iI_cl, e1]
  simp (disch := first | assumption | omega | exact isB_z | exact isB_o | exact iI_in' (by assumption) (by omega) (by omega) | exact cat_int _ | exact cat_ref _ | exact cat_null | decide) only [↓x_131_187, up1_same, up1_ne, up1_up1, us_0, us_1, us_2, us_3, us_4, us_5, us_6, us_7, us_8, us_9, us_10, us_11, rw_zero, rw_succ, Option.toList_some, Option.toList_none, List.cons_append, List.nil_append, cat_int, cat_ref, cat_null, iI_add, iI_sub, iI_mul, iI_neg, List.length_cons, List.length_nil, ↓reduceIte, va_rf_some]
  refine k_sends hK hT h z1b (fun V' A' P' e' q1 q2 => ?_)
  obtain ⟨r1, r2, r3⟩ := lw_mid q2 hv hr
  rw [r1]
  simp (disch := first | assumption | omega | exact isB_z | exact isB_o | exact iI_in' (by assumption) (by omega) (by omega) | exact cat_int _ | exact cat_ref _ | exact cat_null | decide) only [↓x_131_190, ↓x_131_191, ↓x_131_192, ↓x_131_193, ↓x_131_194, ↓x_131_195, up1_same, up1_ne, up1_up1, us_0, us_1, us_2, us_3, us_4, us_5, us_6, us_7, us_8, us_9, us_10, us_11, rw_zero, rw_succ, Option.toList_some, Option.toList_none, List.cons_append, List.nil_append, cat_int, cat_ref, cat_null, iI_add, iI_sub, iI_mul, iI_neg, List.length_cons, List.length_nil, ↓reduceIte, va_rf_some, iI_cl, r3, e1]
  simp (disch := first | assumption | omega | exact isB_z | exact isB_o | exact iI_in' (by assumption) (by omega) (by omega) | exact cat_int _ | exact cat_ref _ | exact cat_null | decide) only [↓x_131_196, up1_same, up1_ne, up1_up1, us_0, us_1, us_2, us_3, us_4, us_5, us_6, us_7, us_8, us_9, us_10, us_11, rw_zero, rw_succ, Option.toList_some, Option.toList_none, List.cons_append, List.nil_append, cat_int, cat_ref, cat_null, iI_add, iI_sub, iI_mul, iI_neg, List.length_cons, List.length_nil, ↓reduceIte, va_rf_some]
  refine km_sends hM hS r2 z1b (fun g' A2 u1 u2 => ?_)
  simp (disch := first | assumption | omega | exact isB_z | exact isB_o | exact iI_in' (by assumption) (by omega) (by omega) | exact cat_int _ | exact cat_ref _ | exact cat_null | decide) only [↓x_131_199, up1_same, up1_ne, up1_up1, us_0, us_1, us_2, us_3, us_4, us_5, us_6, us_7, us_8, us_9, us_10, us_11, rw_zero, rw_succ, Option.toList_some, Option.toList_none, List.cons_append, List.nil_append, cat_int, cat_ref, cat_null, iI_add, iI_sub, iI_mul, iI_neg, List.length_cons, List.length_nil, ↓reduceIte, va_rf_some]
  exact hN _ A2 P' (lw_end hT hs q1 q2 u1 u2)
set_option maxHeartbeats 400000 in
theorem lw_marks {i L : Nat} (hK : exK t) (hM : mK t) (hsc : kd t 2 = 10 ∧ ln t 2 = L) (hi : i + 5 ≤ L) (hL : L ≤ 2560) (hI : lwI xs t V A P) (hN : ∀ (V' : Nat → Nat → Value) (A' : Nat → Nat → Int32) (P' : Nat → Nat → Option Nat), lwI xs t V' A' P' → Ev 40 131 655 [.ref 2, .ref 3, .ref 62, .int (iI i)] [] (t, V', A', P') Q) : Ev 40 131 204 [.ref 2, .ref 3, .ref 62, .int (iI i)] [] (t, V, A, P) Q := by
  obtain ⟨S, e, g, h, hv, hr, hT, hs⟩ := hI
  have hS := h.wfS
  obtain ⟨s1, s2⟩ := hsc
  have k3 := hK.1
  have k62 := hM.1
  obtain ⟨z1, z1a, z1c, e1⟩ := iI_of (A 2 ((i : Int) + 1).toNat)
  have z1b : -2147483648 ≤ z1 ∧ z1 < 2147483648 := ⟨z1a, z1c⟩
  simp (disch := first | assumption | omega | exact isB_z | exact isB_o | exact iI_in' (by assumption) (by omega) (by omega) | exact cat_int _ | exact cat_ref _ | exact cat_null | decide) only [↓x_131_204, ↓x_131_205, ↓x_131_206, ↓x_131_207, ↓x_131_208, ↓x_131_209, up1_same, up1_ne, up1_up1, us_0, us_1, us_2, us_3, us_4, us_5, us_6, us_7, us_8, us_9, us_10, us_11, rw_zero, rw_succ, Option.toList_some, Option.toList_none, List.cons_append, List.nil_append, cat_int, cat_ref, cat_null, iI_add, iI_sub, iI_mul, iI_neg, List.length_cons, List.length_nil, ↓reduceIte, va_rf_some, iI_cl, e1]
  simp (disch := first | assumption | omega | exact isB_z | exact isB_o | exact iI_in' (by assumption) (by omega) (by omega) | exact cat_int _ | exact cat_ref _ | exact cat_null | decide) only [↓x_131_210, up1_same, up1_ne, up1_up1, us_0, us_1, us_2, us_3, us_4, us_5, us_6, us_7, us_8, us_9, us_10, us_11, rw_zero, rw_succ, Option.toList_some, Option.toList_none, List.cons_append, List.nil_append, cat_int, cat_ref, cat_null, iI_add, iI_sub, iI_mul, iI_neg, List.length_cons, List.length_nil, ↓reduceIte, va_rf_some]
  refine k_marks hK hT h z1b (fun V' A' P' e' q1 q2 => ?_)
  obtain ⟨r1, r2, r3⟩ := lw_mid q2 hv hr
  rw [r1]
  simp (disch := first | assumption | omega | exact isB_z | exact isB_o | exact iI_in' (by assumption) (by omega) (by omega) | exact cat_int _ | exact cat_ref _ | exact cat_null | decide) only [↓x_131_213, ↓x_131_214, ↓x_131_215, ↓x_131_216, ↓x_131_217, ↓x_131_218, up1_same, up1_ne, up1_up1, us_0, us_1, us_2, us_3, us_4, us_5, us_6, us_7, us_8, us_9, us_10, us_11, rw_zero, rw_succ, Option.toList_some, Option.toList_none, List.cons_append, List.nil_append, cat_int, cat_ref, cat_null, iI_add, iI_sub, iI_mul, iI_neg, List.length_cons, List.length_nil, ↓reduceIte, va_rf_some, iI_cl, r3, e1]
  simp (disch := first | assumption | omega | exact isB_z | exact isB_o | exact iI_in' (by assumption) (by omega) (by omega) | exact cat_int _ | exact cat_ref _ | exact cat_null | decide) only [↓x_131_219, up1_same, up1_ne, up1_up1, us_0, us_1, us_2, us_3, us_4, us_5, us_6, us_7, us_8, us_9, us_10, us_11, rw_zero, rw_succ, Option.toList_some, Option.toList_none, List.cons_append, List.nil_append, cat_int, cat_ref, cat_null, iI_add, iI_sub, iI_mul, iI_neg, List.length_cons, List.length_nil, ↓reduceIte, va_rf_some]
  refine km_marks hM hS r2 z1b (fun g' A2 u1 u2 => ?_)
  simp (disch := first | assumption | omega | exact isB_z | exact isB_o | exact iI_in' (by assumption) (by omega) (by omega) | exact cat_int _ | exact cat_ref _ | exact cat_null | decide) only [↓x_131_222, up1_same, up1_ne, up1_up1, us_0, us_1, us_2, us_3, us_4, us_5, us_6, us_7, us_8, us_9, us_10, us_11, rw_zero, rw_succ, Option.toList_some, Option.toList_none, List.cons_append, List.nil_append, cat_int, cat_ref, cat_null, iI_add, iI_sub, iI_mul, iI_neg, List.length_cons, List.length_nil, ↓reduceIte, va_rf_some]
  exact hN _ A2 P' (lw_end hT hs q1 q2 u1 u2)
set_option maxHeartbeats 400000 in
theorem lw_flips {i L : Nat} (hK : exK t) (hM : mK t) (hsc : kd t 2 = 10 ∧ ln t 2 = L) (hi : i + 5 ≤ L) (hL : L ≤ 2560) (hI : lwI xs t V A P) (hN : ∀ (V' : Nat → Nat → Value) (A' : Nat → Nat → Int32) (P' : Nat → Nat → Option Nat), lwI xs t V' A' P' → Ev 40 131 655 [.ref 2, .ref 3, .ref 62, .int (iI i)] [] (t, V', A', P') Q) : Ev 40 131 227 [.ref 2, .ref 3, .ref 62, .int (iI i)] [] (t, V, A, P) Q := by
  obtain ⟨S, e, g, h, hv, hr, hT, hs⟩ := hI
  have hS := h.wfS
  obtain ⟨s1, s2⟩ := hsc
  have k3 := hK.1
  have k62 := hM.1
  obtain ⟨z1, z1a, z1c, e1⟩ := iI_of (A 2 ((i : Int) + 1).toNat)
  have z1b : -2147483648 ≤ z1 ∧ z1 < 2147483648 := ⟨z1a, z1c⟩
  simp (disch := first | assumption | omega | exact isB_z | exact isB_o | exact iI_in' (by assumption) (by omega) (by omega) | exact cat_int _ | exact cat_ref _ | exact cat_null | decide) only [↓x_131_227, ↓x_131_228, ↓x_131_229, ↓x_131_230, ↓x_131_231, ↓x_131_232, up1_same, up1_ne, up1_up1, us_0, us_1, us_2, us_3, us_4, us_5, us_6, us_7, us_8, us_9, us_10, us_11, rw_zero, rw_succ, Option.toList_some, Option.toList_none, List.cons_append, List.nil_append, cat_int, cat_ref, cat_null, iI_add, iI_sub, iI_mul, iI_neg, List.length_cons, List.length_nil, ↓reduceIte, va_rf_some, iI_cl, e1]
  simp (disch := first | assumption | omega | exact isB_z | exact isB_o | exact iI_in' (by assumption) (by omega) (by omega) | exact cat_int _ | exact cat_ref _ | exact cat_null | decide) only [↓x_131_233, up1_same, up1_ne, up1_up1, us_0, us_1, us_2, us_3, us_4, us_5, us_6, us_7, us_8, us_9, us_10, us_11, rw_zero, rw_succ, Option.toList_some, Option.toList_none, List.cons_append, List.nil_append, cat_int, cat_ref, cat_null, iI_add, iI_sub, iI_mul, iI_neg, List.length_cons, List.length_nil, ↓reduceIte, va_rf_some]
  refine k_flips hK h z1b (fun V' A' P' e' q1 q2 => ?_)
  obtain ⟨r1, r2, r3⟩ := lw_mid q2 hv hr
  rw [r1]
  simp (disch := first | assumption | omega | exact isB_z | exact isB_o | exact iI_in' (by assumption) (by omega) (by omega) | exact cat_int _ | exact cat_ref _ | exact cat_null | decide) only [↓x_131_236, ↓x_131_237, ↓x_131_238, ↓x_131_239, ↓x_131_240, ↓x_131_241, up1_same, up1_ne, up1_up1, us_0, us_1, us_2, us_3, us_4, us_5, us_6, us_7, us_8, us_9, us_10, us_11, rw_zero, rw_succ, Option.toList_some, Option.toList_none, List.cons_append, List.nil_append, cat_int, cat_ref, cat_null, iI_add, iI_sub, iI_mul, iI_neg, List.length_cons, List.length_nil, ↓reduceIte, va_rf_some, iI_cl, r3, e1]
  simp (disch := first | assumption | omega | exact isB_z | exact isB_o | exact iI_in' (by assumption) (by omega) (by omega) | exact cat_int _ | exact cat_ref _ | exact cat_null | decide) only [↓x_131_242, up1_same, up1_ne, up1_up1, us_0, us_1, us_2, us_3, us_4, us_5, us_6, us_7, us_8, us_9, us_10, us_11, rw_zero, rw_succ, Option.toList_some, Option.toList_none, List.cons_append, List.nil_append, cat_int, cat_ref, cat_null, iI_add, iI_sub, iI_mul, iI_neg, List.length_cons, List.length_nil, ↓reduceIte, va_rf_some]
  refine km_flips hM hS r2 z1b (fun g' A2 u1 u2 => ?_)
  simp (disch := first | assumption | omega | exact isB_z | exact isB_o | exact iI_in' (by assumption) (by omega) (by omega) | exact cat_int _ | exact cat_ref _ | exact cat_null | decide) only [↓x_131_245, up1_same, up1_ne, up1_up1, us_0, us_1, us_2, us_3, us_4, us_5, us_6, us_7, us_8, us_9, us_10, us_11, rw_zero, rw_succ, Option.toList_some, Option.toList_none, List.cons_append, List.nil_append, cat_int, cat_ref, cat_null, iI_add, iI_sub, iI_mul, iI_neg, List.length_cons, List.length_nil, ↓reduceIte, va_rf_some]
  exact hN _ A2 P' (lw_end hT hs q1 q2 u1 u2)
set_option maxHeartbeats 400000 in
theorem lw_clears {i L : Nat} (hK : exK t) (hM : mK t) (hsc : kd t 2 = 10 ∧ ln t 2 = L) (hi : i + 5 ≤ L) (hL : L ≤ 2560) (hI : lwI xs t V A P) (hN : ∀ (V' : Nat → Nat → Value) (A' : Nat → Nat → Int32) (P' : Nat → Nat → Option Nat), lwI xs t V' A' P' → Ev 40 131 655 [.ref 2, .ref 3, .ref 62, .int (iI i)] [] (t, V', A', P') Q) : Ev 40 131 250 [.ref 2, .ref 3, .ref 62, .int (iI i)] [] (t, V, A, P) Q := by
  obtain ⟨S, e, g, h, hv, hr, hT, hs⟩ := hI
  have hS := h.wfS
  obtain ⟨s1, s2⟩ := hsc
  have k3 := hK.1
  have k62 := hM.1
  simp (disch := first | assumption | omega | exact isB_z | exact isB_o | exact iI_in' (by assumption) (by omega) (by omega) | exact cat_int _ | exact cat_ref _ | exact cat_null | decide) only [↓x_131_250, up1_same, up1_ne, up1_up1, us_0, us_1, us_2, us_3, us_4, us_5, us_6, us_7, us_8, us_9, us_10, us_11, rw_zero, rw_succ, Option.toList_some, Option.toList_none, List.cons_append, List.nil_append, cat_int, cat_ref, cat_null, iI_add, iI_sub, iI_mul, iI_neg, List.length_cons, List.length_nil, ↓reduceIte, va_rf_some, iI_cl]
  simp (disch := first | assumption | omega | exact isB_z | exact isB_o | exact iI_in' (by assumption) (by omega) (by omega) | exact cat_int _ | exact cat_ref _ | exact cat_null | decide) only [↓x_131_251, up1_same, up1_ne, up1_up1, us_0, us_1, us_2, us_3, us_4, us_5, us_6, us_7, us_8, us_9, us_10, us_11, rw_zero, rw_succ, Option.toList_some, Option.toList_none, List.cons_append, List.nil_append, cat_int, cat_ref, cat_null, iI_add, iI_sub, iI_mul, iI_neg, List.length_cons, List.length_nil, ↓reduceIte, va_rf_some]
  refine k_clears hK h (fun V' A' P' e' q1 q2 => ?_)
  obtain ⟨r1, r2, r3⟩ := lw_mid q2 hv hr
  rw [r1]
  simp (disch := first | assumption | omega | exact isB_z | exact isB_o | exact iI_in' (by assumption) (by omega) (by omega) | exact cat_int _ | exact cat_ref _ | exact cat_null | decide) only [↓x_131_254, up1_same, up1_ne, up1_up1, us_0, us_1, us_2, us_3, us_4, us_5, us_6, us_7, us_8, us_9, us_10, us_11, rw_zero, rw_succ, Option.toList_some, Option.toList_none, List.cons_append, List.nil_append, cat_int, cat_ref, cat_null, iI_add, iI_sub, iI_mul, iI_neg, List.length_cons, List.length_nil, ↓reduceIte, va_rf_some, iI_cl, r3]
  simp (disch := first | assumption | omega | exact isB_z | exact isB_o | exact iI_in' (by assumption) (by omega) (by omega) | exact cat_int _ | exact cat_ref _ | exact cat_null | decide) only [↓x_131_255, up1_same, up1_ne, up1_up1, us_0, us_1, us_2, us_3, us_4, us_5, us_6, us_7, us_8, us_9, us_10, us_11, rw_zero, rw_succ, Option.toList_some, Option.toList_none, List.cons_append, List.nil_append, cat_int, cat_ref, cat_null, iI_add, iI_sub, iI_mul, iI_neg, List.length_cons, List.length_nil, ↓reduceIte, va_rf_some]
  refine km_clears hM hS r2 (fun g' A2 u1 u2 => ?_)
  simp (disch := first | assumption | omega | exact isB_z | exact isB_o | exact iI_in' (by assumption) (by omega) (by omega) | exact cat_int _ | exact cat_ref _ | exact cat_null | decide) only [↓x_131_258, up1_same, up1_ne, up1_up1, us_0, us_1, us_2, us_3, us_4, us_5, us_6, us_7, us_8, us_9, us_10, us_11, rw_zero, rw_succ, Option.toList_some, Option.toList_none, List.cons_append, List.nil_append, cat_int, cat_ref, cat_null, iI_add, iI_sub, iI_mul, iI_neg, List.length_cons, List.length_nil, ↓reduceIte, va_rf_some]
  exact hN _ A2 P' (lw_end hT hs q1 q2 u1 u2)
set_option maxHeartbeats 400000 in
theorem lw_undo {i L : Nat} (hK : exK t) (hM : mK t) (hsc : kd t 2 = 10 ∧ ln t 2 = L) (hi : i + 5 ≤ L) (hL : L ≤ 2560) (hI : lwI xs t V A P) (hN : ∀ (V' : Nat → Nat → Value) (A' : Nat → Nat → Int32) (P' : Nat → Nat → Option Nat), lwI xs t V' A' P' → Ev 40 131 655 [.ref 2, .ref 3, .ref 62, .int (iI i)] [] (t, V', A', P') Q) : Ev 40 131 263 [.ref 2, .ref 3, .ref 62, .int (iI i)] [] (t, V, A, P) Q := by
  obtain ⟨S, e, g, h, hv, hr, hT, hs⟩ := hI
  have hS := h.wfS
  obtain ⟨s1, s2⟩ := hsc
  have k3 := hK.1
  have k62 := hM.1
  simp (disch := first | assumption | omega | exact isB_z | exact isB_o | exact iI_in' (by assumption) (by omega) (by omega) | exact cat_int _ | exact cat_ref _ | exact cat_null | decide) only [↓x_131_263, up1_same, up1_ne, up1_up1, us_0, us_1, us_2, us_3, us_4, us_5, us_6, us_7, us_8, us_9, us_10, us_11, rw_zero, rw_succ, Option.toList_some, Option.toList_none, List.cons_append, List.nil_append, cat_int, cat_ref, cat_null, iI_add, iI_sub, iI_mul, iI_neg, List.length_cons, List.length_nil, ↓reduceIte, va_rf_some, iI_cl]
  simp (disch := first | assumption | omega | exact isB_z | exact isB_o | exact iI_in' (by assumption) (by omega) (by omega) | exact cat_int _ | exact cat_ref _ | exact cat_null | decide) only [↓x_131_264, up1_same, up1_ne, up1_up1, us_0, us_1, us_2, us_3, us_4, us_5, us_6, us_7, us_8, us_9, us_10, us_11, rw_zero, rw_succ, Option.toList_some, Option.toList_none, List.cons_append, List.nil_append, cat_int, cat_ref, cat_null, iI_add, iI_sub, iI_mul, iI_neg, List.length_cons, List.length_nil, ↓reduceIte, va_rf_some]
  refine k_undo hK h (fun V' A' P' e' q1 q2 => ?_)
  obtain ⟨r1, r2, r3⟩ := lw_mid q2 hv hr
  rw [r1]
  simp (disch := first | assumption | omega | exact isB_z | exact isB_o | exact iI_in' (by assumption) (by omega) (by omega) | exact cat_int _ | exact cat_ref _ | exact cat_null | decide) only [↓x_131_267, up1_same, up1_ne, up1_up1, us_0, us_1, us_2, us_3, us_4, us_5, us_6, us_7, us_8, us_9, us_10, us_11, rw_zero, rw_succ, Option.toList_some, Option.toList_none, List.cons_append, List.nil_append, cat_int, cat_ref, cat_null, iI_add, iI_sub, iI_mul, iI_neg, List.length_cons, List.length_nil, ↓reduceIte, va_rf_some, iI_cl, r3]
  simp (disch := first | assumption | omega | exact isB_z | exact isB_o | exact iI_in' (by assumption) (by omega) (by omega) | exact cat_int _ | exact cat_ref _ | exact cat_null | decide) only [↓x_131_268, up1_same, up1_ne, up1_up1, us_0, us_1, us_2, us_3, us_4, us_5, us_6, us_7, us_8, us_9, us_10, us_11, rw_zero, rw_succ, Option.toList_some, Option.toList_none, List.cons_append, List.nil_append, cat_int, cat_ref, cat_null, iI_add, iI_sub, iI_mul, iI_neg, List.length_cons, List.length_nil, ↓reduceIte, va_rf_some]
  refine km_undo hM hS r2 (fun g' A2 u1 u2 => ?_)
  simp (disch := first | assumption | omega | exact isB_z | exact isB_o | exact iI_in' (by assumption) (by omega) (by omega) | exact cat_int _ | exact cat_ref _ | exact cat_null | decide) only [↓x_131_271, up1_same, up1_ne, up1_up1, us_0, us_1, us_2, us_3, us_4, us_5, us_6, us_7, us_8, us_9, us_10, us_11, rw_zero, rw_succ, Option.toList_some, Option.toList_none, List.cons_append, List.nil_append, cat_int, cat_ref, cat_null, iI_add, iI_sub, iI_mul, iI_neg, List.length_cons, List.length_nil, ↓reduceIte, va_rf_some]
  exact hN _ A2 P' (lw_end hT hs q1 q2 u1 u2)
set_option maxHeartbeats 400000 in
theorem lw_form {i L : Nat} (hK : exK t) (hM : mK t) (hsc : kd t 2 = 10 ∧ ln t 2 = L) (hi : i + 5 ≤ L) (hL : L ≤ 2560) (hI : lwI xs t V A P) (hN : ∀ (V' : Nat → Nat → Value) (A' : Nat → Nat → Int32) (P' : Nat → Nat → Option Nat), lwI xs t V' A' P' → Ev 40 131 655 [.ref 2, .ref 3, .ref 62, .int (iI i)] [] (t, V', A', P') Q) : Ev 40 131 276 [.ref 2, .ref 3, .ref 62, .int (iI i)] [] (t, V, A, P) Q := by
  obtain ⟨S, e, g, h, hv, hr, hT, hs⟩ := hI
  have hS := h.wfS
  obtain ⟨s1, s2⟩ := hsc
  have k3 := hK.1
  have k62 := hM.1
  obtain ⟨z1, z1a, z1c, e1⟩ := iI_of (A 2 ((i : Int) + 1).toNat)
  have z1b : -2147483648 ≤ z1 ∧ z1 < 2147483648 := ⟨z1a, z1c⟩
  obtain ⟨z2, z2a, z2c, e2⟩ := iI_of (A 2 ((i : Int) + 2).toNat)
  have z2b : -2147483648 ≤ z2 ∧ z2 < 2147483648 := ⟨z2a, z2c⟩
  simp (disch := first | assumption | omega | exact isB_z | exact isB_o | exact iI_in' (by assumption) (by omega) (by omega) | exact cat_int _ | exact cat_ref _ | exact cat_null | decide) only [↓x_131_276, ↓x_131_277, ↓x_131_278, ↓x_131_279, ↓x_131_280, ↓x_131_281, ↓x_131_282, ↓x_131_283, ↓x_131_284, ↓x_131_285, ↓x_131_286, up1_same, up1_ne, up1_up1, us_0, us_1, us_2, us_3, us_4, us_5, us_6, us_7, us_8, us_9, us_10, us_11, rw_zero, rw_succ, Option.toList_some, Option.toList_none, List.cons_append, List.nil_append, cat_int, cat_ref, cat_null, iI_add, iI_sub, iI_mul, iI_neg, List.length_cons, List.length_nil, ↓reduceIte, va_rf_some, iI_cl, e1, e2]
  simp (disch := first | assumption | omega | exact isB_z | exact isB_o | exact iI_in' (by assumption) (by omega) (by omega) | exact cat_int _ | exact cat_ref _ | exact cat_null | decide) only [↓x_131_287, up1_same, up1_ne, up1_up1, us_0, us_1, us_2, us_3, us_4, us_5, us_6, us_7, us_8, us_9, us_10, us_11, rw_zero, rw_succ, Option.toList_some, Option.toList_none, List.cons_append, List.nil_append, cat_int, cat_ref, cat_null, iI_add, iI_sub, iI_mul, iI_neg, List.length_cons, List.length_nil, ↓reduceIte, va_rf_some]
  refine kq_form hK hT h z1b z2b (fun V' A' P' e' q1 q2 => ?_)
  obtain ⟨r1, r2, r3⟩ := lw_mid q2 hv hr
  rw [r1]
  simp (disch := first | assumption | omega | exact isB_z | exact isB_o | exact iI_in' (by assumption) (by omega) (by omega) | exact cat_int _ | exact cat_ref _ | exact cat_null | decide) only [↓x_131_290, ↓x_131_291, ↓x_131_292, ↓x_131_293, ↓x_131_294, ↓x_131_295, ↓x_131_296, ↓x_131_297, ↓x_131_298, ↓x_131_299, ↓x_131_300, up1_same, up1_ne, up1_up1, us_0, us_1, us_2, us_3, us_4, us_5, us_6, us_7, us_8, us_9, us_10, us_11, rw_zero, rw_succ, Option.toList_some, Option.toList_none, List.cons_append, List.nil_append, cat_int, cat_ref, cat_null, iI_add, iI_sub, iI_mul, iI_neg, List.length_cons, List.length_nil, ↓reduceIte, va_rf_some, iI_cl, r3, e1, e2]
  simp (disch := first | assumption | omega | exact isB_z | exact isB_o | exact iI_in' (by assumption) (by omega) (by omega) | exact cat_int _ | exact cat_ref _ | exact cat_null | decide) only [↓x_131_301, up1_same, up1_ne, up1_up1, us_0, us_1, us_2, us_3, us_4, us_5, us_6, us_7, us_8, us_9, us_10, us_11, rw_zero, rw_succ, Option.toList_some, Option.toList_none, List.cons_append, List.nil_append, cat_int, cat_ref, cat_null, iI_add, iI_sub, iI_mul, iI_neg, List.length_cons, List.length_nil, ↓reduceIte, va_rf_some]
  refine km_form hM r2 z1b z2b (fun g' A2 u1 u2 => ?_)
  simp (disch := first | assumption | omega | exact isB_z | exact isB_o | exact iI_in' (by assumption) (by omega) (by omega) | exact cat_int _ | exact cat_ref _ | exact cat_null | decide) only [↓x_131_304, up1_same, up1_ne, up1_up1, us_0, us_1, us_2, us_3, us_4, us_5, us_6, us_7, us_8, us_9, us_10, us_11, rw_zero, rw_succ, Option.toList_some, Option.toList_none, List.cons_append, List.nil_append, cat_int, cat_ref, cat_null, iI_add, iI_sub, iI_mul, iI_neg, List.length_cons, List.length_nil, ↓reduceIte, va_rf_some]
  exact hN _ A2 P' (lw_end hT hs q1 q2 u1 u2)
set_option maxHeartbeats 400000 in
theorem lw_bit {i L : Nat} (hK : exK t) (hM : mK t) (hsc : kd t 2 = 10 ∧ ln t 2 = L) (hi : i + 5 ≤ L) (hL : L ≤ 2560) (hI : lwI xs t V A P) (hN : ∀ (V' : Nat → Nat → Value) (A' : Nat → Nat → Int32) (P' : Nat → Nat → Option Nat), lwI xs t V' A' P' → Ev 40 131 655 [.ref 2, .ref 3, .ref 62, .int (iI i)] [] (t, V', A', P') Q) : Ev 40 131 309 [.ref 2, .ref 3, .ref 62, .int (iI i)] [] (t, V, A, P) Q := by
  obtain ⟨S, e, g, h, hv, hr, hT, hs⟩ := hI
  have hS := h.wfS
  obtain ⟨s1, s2⟩ := hsc
  have k3 := hK.1
  have k62 := hM.1
  obtain ⟨z1, z1a, z1c, e1⟩ := iI_of (A 2 ((i : Int) + 1).toNat)
  have z1b : -2147483648 ≤ z1 ∧ z1 < 2147483648 := ⟨z1a, z1c⟩
  simp (disch := first | assumption | omega | exact isB_z | exact isB_o | exact iI_in' (by assumption) (by omega) (by omega) | exact cat_int _ | exact cat_ref _ | exact cat_null | decide) only [↓x_131_309, ↓x_131_310, ↓x_131_311, ↓x_131_312, ↓x_131_313, ↓x_131_314, up1_same, up1_ne, up1_up1, us_0, us_1, us_2, us_3, us_4, us_5, us_6, us_7, us_8, us_9, us_10, us_11, rw_zero, rw_succ, Option.toList_some, Option.toList_none, List.cons_append, List.nil_append, cat_int, cat_ref, cat_null, iI_add, iI_sub, iI_mul, iI_neg, List.length_cons, List.length_nil, ↓reduceIte, va_rf_some, iI_cl, e1]
  simp (disch := first | assumption | omega | exact isB_z | exact isB_o | exact iI_in' (by assumption) (by omega) (by omega) | exact cat_int _ | exact cat_ref _ | exact cat_null | decide) only [↓x_131_315, up1_same, up1_ne, up1_up1, us_0, us_1, us_2, us_3, us_4, us_5, us_6, us_7, us_8, us_9, us_10, us_11, rw_zero, rw_succ, Option.toList_some, Option.toList_none, List.cons_append, List.nil_append, cat_int, cat_ref, cat_null, iI_add, iI_sub, iI_mul, iI_neg, List.length_cons, List.length_nil, ↓reduceIte, va_rf_some]
  refine kq_bit hK hT h z1b (fun V' A' P' e' q1 q2 => ?_)
  obtain ⟨r1, r2, r3⟩ := lw_mid q2 hv hr
  rw [r1]
  simp (disch := first | assumption | omega | exact isB_z | exact isB_o | exact iI_in' (by assumption) (by omega) (by omega) | exact cat_int _ | exact cat_ref _ | exact cat_null | decide) only [↓x_131_318, ↓x_131_319, ↓x_131_320, ↓x_131_321, ↓x_131_322, ↓x_131_323, up1_same, up1_ne, up1_up1, us_0, us_1, us_2, us_3, us_4, us_5, us_6, us_7, us_8, us_9, us_10, us_11, rw_zero, rw_succ, Option.toList_some, Option.toList_none, List.cons_append, List.nil_append, cat_int, cat_ref, cat_null, iI_add, iI_sub, iI_mul, iI_neg, List.length_cons, List.length_nil, ↓reduceIte, va_rf_some, iI_cl, r3, e1]
  simp (disch := first | assumption | omega | exact isB_z | exact isB_o | exact iI_in' (by assumption) (by omega) (by omega) | exact cat_int _ | exact cat_ref _ | exact cat_null | decide) only [↓x_131_324, up1_same, up1_ne, up1_up1, us_0, us_1, us_2, us_3, us_4, us_5, us_6, us_7, us_8, us_9, us_10, us_11, rw_zero, rw_succ, Option.toList_some, Option.toList_none, List.cons_append, List.nil_append, cat_int, cat_ref, cat_null, iI_add, iI_sub, iI_mul, iI_neg, List.length_cons, List.length_nil, ↓reduceIte, va_rf_some]
  refine km_bit hM hS r2 z1b (fun g' A2 u1 u2 => ?_)
  simp (disch := first | assumption | omega | exact isB_z | exact isB_o | exact iI_in' (by assumption) (by omega) (by omega) | exact cat_int _ | exact cat_ref _ | exact cat_null | decide) only [↓x_131_327, up1_same, up1_ne, up1_up1, us_0, us_1, us_2, us_3, us_4, us_5, us_6, us_7, us_8, us_9, us_10, us_11, rw_zero, rw_succ, Option.toList_some, Option.toList_none, List.cons_append, List.nil_append, cat_int, cat_ref, cat_null, iI_add, iI_sub, iI_mul, iI_neg, List.length_cons, List.length_nil, ↓reduceIte, va_rf_some]
  exact hN _ A2 P' (lw_end hT hs q1 q2 u1 u2)
set_option maxHeartbeats 400000 in
theorem lw_word {i L : Nat} (hK : exK t) (hM : mK t) (hsc : kd t 2 = 10 ∧ ln t 2 = L) (hi : i + 5 ≤ L) (hL : L ≤ 2560) (hI : lwI xs t V A P) (hN : ∀ (V' : Nat → Nat → Value) (A' : Nat → Nat → Int32) (P' : Nat → Nat → Option Nat), lwI xs t V' A' P' → Ev 40 131 655 [.ref 2, .ref 3, .ref 62, .int (iI i)] [] (t, V', A', P') Q) : Ev 40 131 332 [.ref 2, .ref 3, .ref 62, .int (iI i)] [] (t, V, A, P) Q := by
  obtain ⟨S, e, g, h, hv, hr, hT, hs⟩ := hI
  have hS := h.wfS
  obtain ⟨s1, s2⟩ := hsc
  have k3 := hK.1
  have k62 := hM.1
  obtain ⟨z1, z1a, z1c, e1⟩ := iI_of (A 2 ((i : Int) + 1).toNat)
  have z1b : -2147483648 ≤ z1 ∧ z1 < 2147483648 := ⟨z1a, z1c⟩
  simp (disch := first | assumption | omega | exact isB_z | exact isB_o | exact iI_in' (by assumption) (by omega) (by omega) | exact cat_int _ | exact cat_ref _ | exact cat_null | decide) only [↓x_131_332, ↓x_131_333, ↓x_131_334, ↓x_131_335, ↓x_131_336, ↓x_131_337, up1_same, up1_ne, up1_up1, us_0, us_1, us_2, us_3, us_4, us_5, us_6, us_7, us_8, us_9, us_10, us_11, rw_zero, rw_succ, Option.toList_some, Option.toList_none, List.cons_append, List.nil_append, cat_int, cat_ref, cat_null, iI_add, iI_sub, iI_mul, iI_neg, List.length_cons, List.length_nil, ↓reduceIte, va_rf_some, iI_cl, e1]
  simp (disch := first | assumption | omega | exact isB_z | exact isB_o | exact iI_in' (by assumption) (by omega) (by omega) | exact cat_int _ | exact cat_ref _ | exact cat_null | decide) only [↓x_131_338, up1_same, up1_ne, up1_up1, us_0, us_1, us_2, us_3, us_4, us_5, us_6, us_7, us_8, us_9, us_10, us_11, rw_zero, rw_succ, Option.toList_some, Option.toList_none, List.cons_append, List.nil_append, cat_int, cat_ref, cat_null, iI_add, iI_sub, iI_mul, iI_neg, List.length_cons, List.length_nil, ↓reduceIte, va_rf_some]
  refine kq_word hK hT h z1b (fun V' A' P' e' q1 q2 => ?_)
  obtain ⟨r1, r2, r3⟩ := lw_mid q2 hv hr
  rw [r1]
  simp (disch := first | assumption | omega | exact isB_z | exact isB_o | exact iI_in' (by assumption) (by omega) (by omega) | exact cat_int _ | exact cat_ref _ | exact cat_null | decide) only [↓x_131_341, ↓x_131_342, ↓x_131_343, ↓x_131_344, ↓x_131_345, ↓x_131_346, up1_same, up1_ne, up1_up1, us_0, us_1, us_2, us_3, us_4, us_5, us_6, us_7, us_8, us_9, us_10, us_11, rw_zero, rw_succ, Option.toList_some, Option.toList_none, List.cons_append, List.nil_append, cat_int, cat_ref, cat_null, iI_add, iI_sub, iI_mul, iI_neg, List.length_cons, List.length_nil, ↓reduceIte, va_rf_some, iI_cl, r3, e1]
  simp (disch := first | assumption | omega | exact isB_z | exact isB_o | exact iI_in' (by assumption) (by omega) (by omega) | exact cat_int _ | exact cat_ref _ | exact cat_null | decide) only [↓x_131_347, up1_same, up1_ne, up1_up1, us_0, us_1, us_2, us_3, us_4, us_5, us_6, us_7, us_8, us_9, us_10, us_11, rw_zero, rw_succ, Option.toList_some, Option.toList_none, List.cons_append, List.nil_append, cat_int, cat_ref, cat_null, iI_add, iI_sub, iI_mul, iI_neg, List.length_cons, List.length_nil, ↓reduceIte, va_rf_some]
  refine km_word hM hS r2 z1b (fun g' A2 u1 u2 => ?_)
  simp (disch := first | assumption | omega | exact isB_z | exact isB_o | exact iI_in' (by assumption) (by omega) (by omega) | exact cat_int _ | exact cat_ref _ | exact cat_null | decide) only [↓x_131_350, up1_same, up1_ne, up1_up1, us_0, us_1, us_2, us_3, us_4, us_5, us_6, us_7, us_8, us_9, us_10, us_11, rw_zero, rw_succ, Option.toList_some, Option.toList_none, List.cons_append, List.nil_append, cat_int, cat_ref, cat_null, iI_add, iI_sub, iI_mul, iI_neg, List.length_cons, List.length_nil, ↓reduceIte, va_rf_some]
  exact hN _ A2 P' (lw_end hT hs q1 q2 u1 u2)
set_option maxHeartbeats 400000 in
theorem lw_recent {i L : Nat} (hK : exK t) (hM : mK t) (hsc : kd t 2 = 10 ∧ ln t 2 = L) (hi : i + 5 ≤ L) (hL : L ≤ 2560) (hI : lwI xs t V A P) (hN : ∀ (V' : Nat → Nat → Value) (A' : Nat → Nat → Int32) (P' : Nat → Nat → Option Nat), lwI xs t V' A' P' → Ev 40 131 655 [.ref 2, .ref 3, .ref 62, .int (iI i)] [] (t, V', A', P') Q) : Ev 40 131 355 [.ref 2, .ref 3, .ref 62, .int (iI i)] [] (t, V, A, P) Q := by
  obtain ⟨S, e, g, h, hv, hr, hT, hs⟩ := hI
  have hS := h.wfS
  obtain ⟨s1, s2⟩ := hsc
  have k3 := hK.1
  have k62 := hM.1
  obtain ⟨z1, z1a, z1c, e1⟩ := iI_of (A 2 ((i : Int) + 1).toNat)
  have z1b : -2147483648 ≤ z1 ∧ z1 < 2147483648 := ⟨z1a, z1c⟩
  simp (disch := first | assumption | omega | exact isB_z | exact isB_o | exact iI_in' (by assumption) (by omega) (by omega) | exact cat_int _ | exact cat_ref _ | exact cat_null | decide) only [↓x_131_355, ↓x_131_356, ↓x_131_357, ↓x_131_358, ↓x_131_359, ↓x_131_360, up1_same, up1_ne, up1_up1, us_0, us_1, us_2, us_3, us_4, us_5, us_6, us_7, us_8, us_9, us_10, us_11, rw_zero, rw_succ, Option.toList_some, Option.toList_none, List.cons_append, List.nil_append, cat_int, cat_ref, cat_null, iI_add, iI_sub, iI_mul, iI_neg, List.length_cons, List.length_nil, ↓reduceIte, va_rf_some, iI_cl, e1]
  simp (disch := first | assumption | omega | exact isB_z | exact isB_o | exact iI_in' (by assumption) (by omega) (by omega) | exact cat_int _ | exact cat_ref _ | exact cat_null | decide) only [↓x_131_361, up1_same, up1_ne, up1_up1, us_0, us_1, us_2, us_3, us_4, us_5, us_6, us_7, us_8, us_9, us_10, us_11, rw_zero, rw_succ, Option.toList_some, Option.toList_none, List.cons_append, List.nil_append, cat_int, cat_ref, cat_null, iI_add, iI_sub, iI_mul, iI_neg, List.length_cons, List.length_nil, ↓reduceIte, va_rf_some]
  refine kq_recent hK hT h z1b (fun V' A' P' e' q1 q2 => ?_)
  obtain ⟨r1, r2, r3⟩ := lw_mid q2 hv hr
  rw [r1]
  simp (disch := first | assumption | omega | exact isB_z | exact isB_o | exact iI_in' (by assumption) (by omega) (by omega) | exact cat_int _ | exact cat_ref _ | exact cat_null | decide) only [↓x_131_364, ↓x_131_365, ↓x_131_366, ↓x_131_367, ↓x_131_368, ↓x_131_369, up1_same, up1_ne, up1_up1, us_0, us_1, us_2, us_3, us_4, us_5, us_6, us_7, us_8, us_9, us_10, us_11, rw_zero, rw_succ, Option.toList_some, Option.toList_none, List.cons_append, List.nil_append, cat_int, cat_ref, cat_null, iI_add, iI_sub, iI_mul, iI_neg, List.length_cons, List.length_nil, ↓reduceIte, va_rf_some, iI_cl, r3, e1]
  simp (disch := first | assumption | omega | exact isB_z | exact isB_o | exact iI_in' (by assumption) (by omega) (by omega) | exact cat_int _ | exact cat_ref _ | exact cat_null | decide) only [↓x_131_370, up1_same, up1_ne, up1_up1, us_0, us_1, us_2, us_3, us_4, us_5, us_6, us_7, us_8, us_9, us_10, us_11, rw_zero, rw_succ, Option.toList_some, Option.toList_none, List.cons_append, List.nil_append, cat_int, cat_ref, cat_null, iI_add, iI_sub, iI_mul, iI_neg, List.length_cons, List.length_nil, ↓reduceIte, va_rf_some]
  refine km_recent hM hS r2 z1b (fun g' A2 u1 u2 => ?_)
  simp (disch := first | assumption | omega | exact isB_z | exact isB_o | exact iI_in' (by assumption) (by omega) (by omega) | exact cat_int _ | exact cat_ref _ | exact cat_null | decide) only [↓x_131_373, up1_same, up1_ne, up1_up1, us_0, us_1, us_2, us_3, us_4, us_5, us_6, us_7, us_8, us_9, us_10, us_11, rw_zero, rw_succ, Option.toList_some, Option.toList_none, List.cons_append, List.nil_append, cat_int, cat_ref, cat_null, iI_add, iI_sub, iI_mul, iI_neg, List.length_cons, List.length_nil, ↓reduceIte, va_rf_some]
  exact hN _ A2 P' (lw_end hT hs q1 q2 u1 u2)
set_option maxHeartbeats 400000 in
theorem lw_piece {i L : Nat} (hK : exK t) (hM : mK t) (hsc : kd t 2 = 10 ∧ ln t 2 = L) (hi : i + 5 ≤ L) (hL : L ≤ 2560) (hI : lwI xs t V A P) (hN : ∀ (V' : Nat → Nat → Value) (A' : Nat → Nat → Int32) (P' : Nat → Nat → Option Nat), lwI xs t V' A' P' → Ev 40 131 655 [.ref 2, .ref 3, .ref 62, .int (iI i)] [] (t, V', A', P') Q) : Ev 40 131 378 [.ref 2, .ref 3, .ref 62, .int (iI i)] [] (t, V, A, P) Q := by
  obtain ⟨S, e, g, h, hv, hr, hT, hs⟩ := hI
  have hS := h.wfS
  obtain ⟨s1, s2⟩ := hsc
  have k3 := hK.1
  have k62 := hM.1
  obtain ⟨z1, z1a, z1c, e1⟩ := iI_of (A 2 ((i : Int) + 1).toNat)
  have z1b : -2147483648 ≤ z1 ∧ z1 < 2147483648 := ⟨z1a, z1c⟩
  obtain ⟨z2, z2a, z2c, e2⟩ := iI_of (A 2 ((i : Int) + 2).toNat)
  have z2b : -2147483648 ≤ z2 ∧ z2 < 2147483648 := ⟨z2a, z2c⟩
  obtain ⟨z3, z3a, z3c, e3⟩ := iI_of (A 2 ((i : Int) + 3).toNat)
  have z3b : -2147483648 ≤ z3 ∧ z3 < 2147483648 := ⟨z3a, z3c⟩
  obtain ⟨z4, z4a, z4c, e4⟩ := iI_of (A 2 ((i : Int) + 4).toNat)
  have z4b : -2147483648 ≤ z4 ∧ z4 < 2147483648 := ⟨z4a, z4c⟩
  simp (disch := first | assumption | omega | exact isB_z | exact isB_o | exact iI_in' (by assumption) (by omega) (by omega) | exact cat_int _ | exact cat_ref _ | exact cat_null | decide) only [↓x_131_378, ↓x_131_379, ↓x_131_380, ↓x_131_381, ↓x_131_382, ↓x_131_383, ↓x_131_384, ↓x_131_385, ↓x_131_386, ↓x_131_387, ↓x_131_388, ↓x_131_389, ↓x_131_390, ↓x_131_391, ↓x_131_392, ↓x_131_393, ↓x_131_394, ↓x_131_395, ↓x_131_396, ↓x_131_397, ↓x_131_398, up1_same, up1_ne, up1_up1, us_0, us_1, us_2, us_3, us_4, us_5, us_6, us_7, us_8, us_9, us_10, us_11, rw_zero, rw_succ, Option.toList_some, Option.toList_none, List.cons_append, List.nil_append, cat_int, cat_ref, cat_null, iI_add, iI_sub, iI_mul, iI_neg, List.length_cons, List.length_nil, ↓reduceIte, va_rf_some, iI_cl, e1, e2, e3, e4]
  simp (disch := first | assumption | omega | exact isB_z | exact isB_o | exact iI_in' (by assumption) (by omega) (by omega) | exact cat_int _ | exact cat_ref _ | exact cat_null | decide) only [↓x_131_399, up1_same, up1_ne, up1_up1, us_0, us_1, us_2, us_3, us_4, us_5, us_6, us_7, us_8, us_9, us_10, us_11, rw_zero, rw_succ, Option.toList_some, Option.toList_none, List.cons_append, List.nil_append, cat_int, cat_ref, cat_null, iI_add, iI_sub, iI_mul, iI_neg, List.length_cons, List.length_nil, ↓reduceIte, va_rf_some]
  refine kq_piece hK hT h z1b z2b z3b z4b (fun V' A' P' e' q1 q2 => ?_)
  obtain ⟨r1, r2, r3⟩ := lw_mid q2 hv hr
  rw [r1]
  simp (disch := first | assumption | omega | exact isB_z | exact isB_o | exact iI_in' (by assumption) (by omega) (by omega) | exact cat_int _ | exact cat_ref _ | exact cat_null | decide) only [↓x_131_402, ↓x_131_403, ↓x_131_404, ↓x_131_405, ↓x_131_406, ↓x_131_407, ↓x_131_408, ↓x_131_409, ↓x_131_410, ↓x_131_411, ↓x_131_412, ↓x_131_413, ↓x_131_414, ↓x_131_415, ↓x_131_416, ↓x_131_417, ↓x_131_418, ↓x_131_419, ↓x_131_420, ↓x_131_421, ↓x_131_422, up1_same, up1_ne, up1_up1, us_0, us_1, us_2, us_3, us_4, us_5, us_6, us_7, us_8, us_9, us_10, us_11, rw_zero, rw_succ, Option.toList_some, Option.toList_none, List.cons_append, List.nil_append, cat_int, cat_ref, cat_null, iI_add, iI_sub, iI_mul, iI_neg, List.length_cons, List.length_nil, ↓reduceIte, va_rf_some, iI_cl, r3, e1, e2, e3, e4]
  simp (disch := first | assumption | omega | exact isB_z | exact isB_o | exact iI_in' (by assumption) (by omega) (by omega) | exact cat_int _ | exact cat_ref _ | exact cat_null | decide) only [↓x_131_423, up1_same, up1_ne, up1_up1, us_0, us_1, us_2, us_3, us_4, us_5, us_6, us_7, us_8, us_9, us_10, us_11, rw_zero, rw_succ, Option.toList_some, Option.toList_none, List.cons_append, List.nil_append, cat_int, cat_ref, cat_null, iI_add, iI_sub, iI_mul, iI_neg, List.length_cons, List.length_nil, ↓reduceIte, va_rf_some]
  refine km_piece hM hS r2 z1b z2b z3b z4b (fun g' A2 u1 u2 => ?_)
  simp (disch := first | assumption | omega | exact isB_z | exact isB_o | exact iI_in' (by assumption) (by omega) (by omega) | exact cat_int _ | exact cat_ref _ | exact cat_null | decide) only [↓x_131_426, up1_same, up1_ne, up1_up1, us_0, us_1, us_2, us_3, us_4, us_5, us_6, us_7, us_8, us_9, us_10, us_11, rw_zero, rw_succ, Option.toList_some, Option.toList_none, List.cons_append, List.nil_append, cat_int, cat_ref, cat_null, iI_add, iI_sub, iI_mul, iI_neg, List.length_cons, List.length_nil, ↓reduceIte, va_rf_some]
  exact hN _ A2 P' (lw_end hT hs q1 q2 u1 u2)
set_option maxHeartbeats 400000 in
theorem lw_read {i L : Nat} (hK : exK t) (hM : mK t) (hsc : kd t 2 = 10 ∧ ln t 2 = L) (hi : i + 5 ≤ L) (hL : L ≤ 2560) (hI : lwI xs t V A P) (hN : ∀ (V' : Nat → Nat → Value) (A' : Nat → Nat → Int32) (P' : Nat → Nat → Option Nat), lwI xs t V' A' P' → Ev 40 131 655 [.ref 2, .ref 3, .ref 62, .int (iI i)] [] (t, V', A', P') Q) : Ev 40 131 431 [.ref 2, .ref 3, .ref 62, .int (iI i)] [] (t, V, A, P) Q := by
  obtain ⟨S, e, g, h, hv, hr, hT, hs⟩ := hI
  have hS := h.wfS
  obtain ⟨s1, s2⟩ := hsc
  have k3 := hK.1
  have k62 := hM.1
  obtain ⟨z1, z1a, z1c, e1⟩ := iI_of (A 2 ((i : Int) + 1).toNat)
  have z1b : -2147483648 ≤ z1 ∧ z1 < 2147483648 := ⟨z1a, z1c⟩
  obtain ⟨z2, z2a, z2c, e2⟩ := iI_of (A 2 ((i : Int) + 2).toNat)
  have z2b : -2147483648 ≤ z2 ∧ z2 < 2147483648 := ⟨z2a, z2c⟩
  obtain ⟨z3, z3a, z3c, e3⟩ := iI_of (A 2 ((i : Int) + 3).toNat)
  have z3b : -2147483648 ≤ z3 ∧ z3 < 2147483648 := ⟨z3a, z3c⟩
  simp (disch := first | assumption | omega | exact isB_z | exact isB_o | exact iI_in' (by assumption) (by omega) (by omega) | exact cat_int _ | exact cat_ref _ | exact cat_null | decide) only [↓x_131_431, ↓x_131_432, ↓x_131_433, ↓x_131_434, ↓x_131_435, ↓x_131_436, ↓x_131_437, ↓x_131_438, ↓x_131_439, ↓x_131_440, ↓x_131_441, ↓x_131_442, ↓x_131_443, ↓x_131_444, ↓x_131_445, ↓x_131_446, up1_same, up1_ne, up1_up1, us_0, us_1, us_2, us_3, us_4, us_5, us_6, us_7, us_8, us_9, us_10, us_11, rw_zero, rw_succ, Option.toList_some, Option.toList_none, List.cons_append, List.nil_append, cat_int, cat_ref, cat_null, iI_add, iI_sub, iI_mul, iI_neg, List.length_cons, List.length_nil, ↓reduceIte, va_rf_some, iI_cl, e1, e2, e3]
  simp (disch := first | assumption | omega | exact isB_z | exact isB_o | exact iI_in' (by assumption) (by omega) (by omega) | exact cat_int _ | exact cat_ref _ | exact cat_null | decide) only [↓x_131_447, up1_same, up1_ne, up1_up1, us_0, us_1, us_2, us_3, us_4, us_5, us_6, us_7, us_8, us_9, us_10, us_11, rw_zero, rw_succ, Option.toList_some, Option.toList_none, List.cons_append, List.nil_append, cat_int, cat_ref, cat_null, iI_add, iI_sub, iI_mul, iI_neg, List.length_cons, List.length_nil, ↓reduceIte, va_rf_some]
  refine kq_read hK hT h z1b z2b z3b (fun V' A' P' e' q1 q2 => ?_)
  obtain ⟨r1, r2, r3⟩ := lw_mid q2 hv hr
  rw [r1]
  simp (disch := first | assumption | omega | exact isB_z | exact isB_o | exact iI_in' (by assumption) (by omega) (by omega) | exact cat_int _ | exact cat_ref _ | exact cat_null | decide) only [↓x_131_450, ↓x_131_451, ↓x_131_452, ↓x_131_453, ↓x_131_454, ↓x_131_455, ↓x_131_456, ↓x_131_457, ↓x_131_458, ↓x_131_459, ↓x_131_460, ↓x_131_461, ↓x_131_462, ↓x_131_463, ↓x_131_464, ↓x_131_465, up1_same, up1_ne, up1_up1, us_0, us_1, us_2, us_3, us_4, us_5, us_6, us_7, us_8, us_9, us_10, us_11, rw_zero, rw_succ, Option.toList_some, Option.toList_none, List.cons_append, List.nil_append, cat_int, cat_ref, cat_null, iI_add, iI_sub, iI_mul, iI_neg, List.length_cons, List.length_nil, ↓reduceIte, va_rf_some, iI_cl, r3, e1, e2, e3]
  simp (disch := first | assumption | omega | exact isB_z | exact isB_o | exact iI_in' (by assumption) (by omega) (by omega) | exact cat_int _ | exact cat_ref _ | exact cat_null | decide) only [↓x_131_466, up1_same, up1_ne, up1_up1, us_0, us_1, us_2, us_3, us_4, us_5, us_6, us_7, us_8, us_9, us_10, us_11, rw_zero, rw_succ, Option.toList_some, Option.toList_none, List.cons_append, List.nil_append, cat_int, cat_ref, cat_null, iI_add, iI_sub, iI_mul, iI_neg, List.length_cons, List.length_nil, ↓reduceIte, va_rf_some]
  refine km_read hM hS r2 z1b z2b z3b (fun g' A2 u1 u2 => ?_)
  simp (disch := first | assumption | omega | exact isB_z | exact isB_o | exact iI_in' (by assumption) (by omega) (by omega) | exact cat_int _ | exact cat_ref _ | exact cat_null | decide) only [↓x_131_469, up1_same, up1_ne, up1_up1, us_0, us_1, us_2, us_3, us_4, us_5, us_6, us_7, us_8, us_9, us_10, us_11, rw_zero, rw_succ, Option.toList_some, Option.toList_none, List.cons_append, List.nil_append, cat_int, cat_ref, cat_null, iI_add, iI_sub, iI_mul, iI_neg, List.length_cons, List.length_nil, ↓reduceIte, va_rf_some]
  exact hN _ A2 P' (lw_end hT hs q1 q2 u1 u2)
set_option maxHeartbeats 400000 in
theorem lw_cuts {i L : Nat} (hK : exK t) (hM : mK t) (hsc : kd t 2 = 10 ∧ ln t 2 = L) (hi : i + 5 ≤ L) (hL : L ≤ 2560) (hI : lwI xs t V A P) (hN : ∀ (V' : Nat → Nat → Value) (A' : Nat → Nat → Int32) (P' : Nat → Nat → Option Nat), lwI xs t V' A' P' → Ev 40 131 655 [.ref 2, .ref 3, .ref 62, .int (iI i)] [] (t, V', A', P') Q) : Ev 40 131 474 [.ref 2, .ref 3, .ref 62, .int (iI i)] [] (t, V, A, P) Q := by
  obtain ⟨S, e, g, h, hv, hr, hT, hs⟩ := hI
  have hS := h.wfS
  obtain ⟨s1, s2⟩ := hsc
  have k3 := hK.1
  have k62 := hM.1
  obtain ⟨z1, z1a, z1c, e1⟩ := iI_of (A 2 ((i : Int) + 1).toNat)
  have z1b : -2147483648 ≤ z1 ∧ z1 < 2147483648 := ⟨z1a, z1c⟩
  simp (disch := first | assumption | omega | exact isB_z | exact isB_o | exact iI_in' (by assumption) (by omega) (by omega) | exact cat_int _ | exact cat_ref _ | exact cat_null | decide) only [↓x_131_474, ↓x_131_475, ↓x_131_476, ↓x_131_477, ↓x_131_478, ↓x_131_479, up1_same, up1_ne, up1_up1, us_0, us_1, us_2, us_3, us_4, us_5, us_6, us_7, us_8, us_9, us_10, us_11, rw_zero, rw_succ, Option.toList_some, Option.toList_none, List.cons_append, List.nil_append, cat_int, cat_ref, cat_null, iI_add, iI_sub, iI_mul, iI_neg, List.length_cons, List.length_nil, ↓reduceIte, va_rf_some, iI_cl, e1]
  simp (disch := first | assumption | omega | exact isB_z | exact isB_o | exact iI_in' (by assumption) (by omega) (by omega) | exact cat_int _ | exact cat_ref _ | exact cat_null | decide) only [↓x_131_480, up1_same, up1_ne, up1_up1, us_0, us_1, us_2, us_3, us_4, us_5, us_6, us_7, us_8, us_9, us_10, us_11, rw_zero, rw_succ, Option.toList_some, Option.toList_none, List.cons_append, List.nil_append, cat_int, cat_ref, cat_null, iI_add, iI_sub, iI_mul, iI_neg, List.length_cons, List.length_nil, ↓reduceIte, va_rf_some]
  refine kq_cuts hK hT h z1b (fun V' A' P' e' q1 q2 => ?_)
  obtain ⟨r1, r2, r3⟩ := lw_mid q2 hv hr
  rw [r1]
  simp (disch := first | assumption | omega | exact isB_z | exact isB_o | exact iI_in' (by assumption) (by omega) (by omega) | exact cat_int _ | exact cat_ref _ | exact cat_null | decide) only [↓x_131_483, ↓x_131_484, ↓x_131_485, ↓x_131_486, ↓x_131_487, ↓x_131_488, up1_same, up1_ne, up1_up1, us_0, us_1, us_2, us_3, us_4, us_5, us_6, us_7, us_8, us_9, us_10, us_11, rw_zero, rw_succ, Option.toList_some, Option.toList_none, List.cons_append, List.nil_append, cat_int, cat_ref, cat_null, iI_add, iI_sub, iI_mul, iI_neg, List.length_cons, List.length_nil, ↓reduceIte, va_rf_some, iI_cl, r3, e1]
  simp (disch := first | assumption | omega | exact isB_z | exact isB_o | exact iI_in' (by assumption) (by omega) (by omega) | exact cat_int _ | exact cat_ref _ | exact cat_null | decide) only [↓x_131_489, up1_same, up1_ne, up1_up1, us_0, us_1, us_2, us_3, us_4, us_5, us_6, us_7, us_8, us_9, us_10, us_11, rw_zero, rw_succ, Option.toList_some, Option.toList_none, List.cons_append, List.nil_append, cat_int, cat_ref, cat_null, iI_add, iI_sub, iI_mul, iI_neg, List.length_cons, List.length_nil, ↓reduceIte, va_rf_some]
  refine km_cuts hM hS r2 z1b (fun g' A2 u1 u2 => ?_)
  simp (disch := first | assumption | omega | exact isB_z | exact isB_o | exact iI_in' (by assumption) (by omega) (by omega) | exact cat_int _ | exact cat_ref _ | exact cat_null | decide) only [↓x_131_492, up1_same, up1_ne, up1_up1, us_0, us_1, us_2, us_3, us_4, us_5, us_6, us_7, us_8, us_9, us_10, us_11, rw_zero, rw_succ, Option.toList_some, Option.toList_none, List.cons_append, List.nil_append, cat_int, cat_ref, cat_null, iI_add, iI_sub, iI_mul, iI_neg, List.length_cons, List.length_nil, ↓reduceIte, va_rf_some]
  exact hN _ A2 P' (lw_end hT hs q1 q2 u1 u2)
set_option maxHeartbeats 400000 in
theorem lw_level {i L : Nat} (hK : exK t) (hM : mK t) (hsc : kd t 2 = 10 ∧ ln t 2 = L) (hi : i + 5 ≤ L) (hL : L ≤ 2560) (hI : lwI xs t V A P) (hN : ∀ (V' : Nat → Nat → Value) (A' : Nat → Nat → Int32) (P' : Nat → Nat → Option Nat), lwI xs t V' A' P' → Ev 40 131 655 [.ref 2, .ref 3, .ref 62, .int (iI i)] [] (t, V', A', P') Q) : Ev 40 131 497 [.ref 2, .ref 3, .ref 62, .int (iI i)] [] (t, V, A, P) Q := by
  obtain ⟨S, e, g, h, hv, hr, hT, hs⟩ := hI
  have hS := h.wfS
  obtain ⟨s1, s2⟩ := hsc
  have k3 := hK.1
  have k62 := hM.1
  obtain ⟨z1, z1a, z1c, e1⟩ := iI_of (A 2 ((i : Int) + 1).toNat)
  have z1b : -2147483648 ≤ z1 ∧ z1 < 2147483648 := ⟨z1a, z1c⟩
  obtain ⟨z2, z2a, z2c, e2⟩ := iI_of (A 2 ((i : Int) + 2).toNat)
  have z2b : -2147483648 ≤ z2 ∧ z2 < 2147483648 := ⟨z2a, z2c⟩
  simp (disch := first | assumption | omega | exact isB_z | exact isB_o | exact iI_in' (by assumption) (by omega) (by omega) | exact cat_int _ | exact cat_ref _ | exact cat_null | decide) only [↓x_131_497, ↓x_131_498, ↓x_131_499, ↓x_131_500, ↓x_131_501, ↓x_131_502, ↓x_131_503, ↓x_131_504, ↓x_131_505, ↓x_131_506, ↓x_131_507, up1_same, up1_ne, up1_up1, us_0, us_1, us_2, us_3, us_4, us_5, us_6, us_7, us_8, us_9, us_10, us_11, rw_zero, rw_succ, Option.toList_some, Option.toList_none, List.cons_append, List.nil_append, cat_int, cat_ref, cat_null, iI_add, iI_sub, iI_mul, iI_neg, List.length_cons, List.length_nil, ↓reduceIte, va_rf_some, iI_cl, e1, e2]
  simp (disch := first | assumption | omega | exact isB_z | exact isB_o | exact iI_in' (by assumption) (by omega) (by omega) | exact cat_int _ | exact cat_ref _ | exact cat_null | decide) only [↓x_131_508, up1_same, up1_ne, up1_up1, us_0, us_1, us_2, us_3, us_4, us_5, us_6, us_7, us_8, us_9, us_10, us_11, rw_zero, rw_succ, Option.toList_some, Option.toList_none, List.cons_append, List.nil_append, cat_int, cat_ref, cat_null, iI_add, iI_sub, iI_mul, iI_neg, List.length_cons, List.length_nil, ↓reduceIte, va_rf_some]
  refine kq_level hK hT h z1b z2b (fun V' A' P' e' q1 q2 => ?_)
  obtain ⟨r1, r2, r3⟩ := lw_mid q2 hv hr
  rw [r1]
  simp (disch := first | assumption | omega | exact isB_z | exact isB_o | exact iI_in' (by assumption) (by omega) (by omega) | exact cat_int _ | exact cat_ref _ | exact cat_null | decide) only [↓x_131_511, ↓x_131_512, ↓x_131_513, ↓x_131_514, ↓x_131_515, ↓x_131_516, ↓x_131_517, ↓x_131_518, ↓x_131_519, ↓x_131_520, ↓x_131_521, up1_same, up1_ne, up1_up1, us_0, us_1, us_2, us_3, us_4, us_5, us_6, us_7, us_8, us_9, us_10, us_11, rw_zero, rw_succ, Option.toList_some, Option.toList_none, List.cons_append, List.nil_append, cat_int, cat_ref, cat_null, iI_add, iI_sub, iI_mul, iI_neg, List.length_cons, List.length_nil, ↓reduceIte, va_rf_some, iI_cl, r3, e1, e2]
  simp (disch := first | assumption | omega | exact isB_z | exact isB_o | exact iI_in' (by assumption) (by omega) (by omega) | exact cat_int _ | exact cat_ref _ | exact cat_null | decide) only [↓x_131_522, up1_same, up1_ne, up1_up1, us_0, us_1, us_2, us_3, us_4, us_5, us_6, us_7, us_8, us_9, us_10, us_11, rw_zero, rw_succ, Option.toList_some, Option.toList_none, List.cons_append, List.nil_append, cat_int, cat_ref, cat_null, iI_add, iI_sub, iI_mul, iI_neg, List.length_cons, List.length_nil, ↓reduceIte, va_rf_some]
  refine km_level hM hS r2 z1b z2b (fun g' A2 u1 u2 => ?_)
  simp (disch := first | assumption | omega | exact isB_z | exact isB_o | exact iI_in' (by assumption) (by omega) (by omega) | exact cat_int _ | exact cat_ref _ | exact cat_null | decide) only [↓x_131_525, up1_same, up1_ne, up1_up1, us_0, us_1, us_2, us_3, us_4, us_5, us_6, us_7, us_8, us_9, us_10, us_11, rw_zero, rw_succ, Option.toList_some, Option.toList_none, List.cons_append, List.nil_append, cat_int, cat_ref, cat_null, iI_add, iI_sub, iI_mul, iI_neg, List.length_cons, List.length_nil, ↓reduceIte, va_rf_some]
  exact hN _ A2 P' (lw_end hT hs q1 q2 u1 u2)
set_option maxHeartbeats 400000 in
theorem lw_evenest {i L : Nat} (hK : exK t) (hM : mK t) (hsc : kd t 2 = 10 ∧ ln t 2 = L) (hi : i + 5 ≤ L) (hL : L ≤ 2560) (hI : lwI xs t V A P) (hN : ∀ (V' : Nat → Nat → Value) (A' : Nat → Nat → Int32) (P' : Nat → Nat → Option Nat), lwI xs t V' A' P' → Ev 40 131 655 [.ref 2, .ref 3, .ref 62, .int (iI i)] [] (t, V', A', P') Q) : Ev 40 131 530 [.ref 2, .ref 3, .ref 62, .int (iI i)] [] (t, V, A, P) Q := by
  obtain ⟨S, e, g, h, hv, hr, hT, hs⟩ := hI
  have hS := h.wfS
  obtain ⟨s1, s2⟩ := hsc
  have k3 := hK.1
  have k62 := hM.1
  obtain ⟨z1, z1a, z1c, e1⟩ := iI_of (A 2 ((i : Int) + 1).toNat)
  have z1b : -2147483648 ≤ z1 ∧ z1 < 2147483648 := ⟨z1a, z1c⟩
  obtain ⟨z2, z2a, z2c, e2⟩ := iI_of (A 2 ((i : Int) + 2).toNat)
  have z2b : -2147483648 ≤ z2 ∧ z2 < 2147483648 := ⟨z2a, z2c⟩
  simp (disch := first | assumption | omega | exact isB_z | exact isB_o | exact iI_in' (by assumption) (by omega) (by omega) | exact cat_int _ | exact cat_ref _ | exact cat_null | decide) only [↓x_131_530, ↓x_131_531, ↓x_131_532, ↓x_131_533, ↓x_131_534, ↓x_131_535, ↓x_131_536, ↓x_131_537, ↓x_131_538, ↓x_131_539, ↓x_131_540, up1_same, up1_ne, up1_up1, us_0, us_1, us_2, us_3, us_4, us_5, us_6, us_7, us_8, us_9, us_10, us_11, rw_zero, rw_succ, Option.toList_some, Option.toList_none, List.cons_append, List.nil_append, cat_int, cat_ref, cat_null, iI_add, iI_sub, iI_mul, iI_neg, List.length_cons, List.length_nil, ↓reduceIte, va_rf_some, iI_cl, e1, e2]
  simp (disch := first | assumption | omega | exact isB_z | exact isB_o | exact iI_in' (by assumption) (by omega) (by omega) | exact cat_int _ | exact cat_ref _ | exact cat_null | decide) only [↓x_131_541, up1_same, up1_ne, up1_up1, us_0, us_1, us_2, us_3, us_4, us_5, us_6, us_7, us_8, us_9, us_10, us_11, rw_zero, rw_succ, Option.toList_some, Option.toList_none, List.cons_append, List.nil_append, cat_int, cat_ref, cat_null, iI_add, iI_sub, iI_mul, iI_neg, List.length_cons, List.length_nil, ↓reduceIte, va_rf_some]
  refine kq_evenest hK hT h z1b z2b (fun V' A' P' e' q1 q2 => ?_)
  obtain ⟨r1, r2, r3⟩ := lw_mid q2 hv hr
  rw [r1]
  simp (disch := first | assumption | omega | exact isB_z | exact isB_o | exact iI_in' (by assumption) (by omega) (by omega) | exact cat_int _ | exact cat_ref _ | exact cat_null | decide) only [↓x_131_544, ↓x_131_545, ↓x_131_546, ↓x_131_547, ↓x_131_548, ↓x_131_549, ↓x_131_550, ↓x_131_551, ↓x_131_552, ↓x_131_553, ↓x_131_554, up1_same, up1_ne, up1_up1, us_0, us_1, us_2, us_3, us_4, us_5, us_6, us_7, us_8, us_9, us_10, us_11, rw_zero, rw_succ, Option.toList_some, Option.toList_none, List.cons_append, List.nil_append, cat_int, cat_ref, cat_null, iI_add, iI_sub, iI_mul, iI_neg, List.length_cons, List.length_nil, ↓reduceIte, va_rf_some, iI_cl, r3, e1, e2]
  simp (disch := first | assumption | omega | exact isB_z | exact isB_o | exact iI_in' (by assumption) (by omega) (by omega) | exact cat_int _ | exact cat_ref _ | exact cat_null | decide) only [↓x_131_555, up1_same, up1_ne, up1_up1, us_0, us_1, us_2, us_3, us_4, us_5, us_6, us_7, us_8, us_9, us_10, us_11, rw_zero, rw_succ, Option.toList_some, Option.toList_none, List.cons_append, List.nil_append, cat_int, cat_ref, cat_null, iI_add, iI_sub, iI_mul, iI_neg, List.length_cons, List.length_nil, ↓reduceIte, va_rf_some]
  refine kmq_evenest (A 21) hM hS r2 z1b z2b (fun g' A2 u1 u2 => ?_)
  simp (disch := first | assumption | omega | exact isB_z | exact isB_o | exact iI_in' (by assumption) (by omega) (by omega) | exact cat_int _ | exact cat_ref _ | exact cat_null | decide) only [↓x_131_558, up1_same, up1_ne, up1_up1, us_0, us_1, us_2, us_3, us_4, us_5, us_6, us_7, us_8, us_9, us_10, us_11, rw_zero, rw_succ, Option.toList_some, Option.toList_none, List.cons_append, List.nil_append, cat_int, cat_ref, cat_null, iI_add, iI_sub, iI_mul, iI_neg, List.length_cons, List.length_nil, ↓reduceIte, va_rf_some]
  exact hN _ A2 P' (lw_end hT hs q1 q2 u1 u2)
set_option maxHeartbeats 400000 in
theorem lw_weight {i L : Nat} (hK : exK t) (hM : mK t) (hsc : kd t 2 = 10 ∧ ln t 2 = L) (hi : i + 5 ≤ L) (hL : L ≤ 2560) (hI : lwI xs t V A P) (hN : ∀ (V' : Nat → Nat → Value) (A' : Nat → Nat → Int32) (P' : Nat → Nat → Option Nat), lwI xs t V' A' P' → Ev 40 131 655 [.ref 2, .ref 3, .ref 62, .int (iI i)] [] (t, V', A', P') Q) : Ev 40 131 563 [.ref 2, .ref 3, .ref 62, .int (iI i)] [] (t, V, A, P) Q := by
  obtain ⟨S, e, g, h, hv, hr, hT, hs⟩ := hI
  have hS := h.wfS
  obtain ⟨s1, s2⟩ := hsc
  have k3 := hK.1
  have k62 := hM.1
  obtain ⟨z1, z1a, z1c, e1⟩ := iI_of (A 2 ((i : Int) + 1).toNat)
  have z1b : -2147483648 ≤ z1 ∧ z1 < 2147483648 := ⟨z1a, z1c⟩
  simp (disch := first | assumption | omega | exact isB_z | exact isB_o | exact iI_in' (by assumption) (by omega) (by omega) | exact cat_int _ | exact cat_ref _ | exact cat_null | decide) only [↓x_131_563, ↓x_131_564, ↓x_131_565, ↓x_131_566, ↓x_131_567, ↓x_131_568, up1_same, up1_ne, up1_up1, us_0, us_1, us_2, us_3, us_4, us_5, us_6, us_7, us_8, us_9, us_10, us_11, rw_zero, rw_succ, Option.toList_some, Option.toList_none, List.cons_append, List.nil_append, cat_int, cat_ref, cat_null, iI_add, iI_sub, iI_mul, iI_neg, List.length_cons, List.length_nil, ↓reduceIte, va_rf_some, iI_cl, e1]
  simp (disch := first | assumption | omega | exact isB_z | exact isB_o | exact iI_in' (by assumption) (by omega) (by omega) | exact cat_int _ | exact cat_ref _ | exact cat_null | decide) only [↓x_131_569, up1_same, up1_ne, up1_up1, us_0, us_1, us_2, us_3, us_4, us_5, us_6, us_7, us_8, us_9, us_10, us_11, rw_zero, rw_succ, Option.toList_some, Option.toList_none, List.cons_append, List.nil_append, cat_int, cat_ref, cat_null, iI_add, iI_sub, iI_mul, iI_neg, List.length_cons, List.length_nil, ↓reduceIte, va_rf_some]
  refine kq_weight hK hT h z1b (fun V' A' P' e' q1 q2 => ?_)
  obtain ⟨r1, r2, r3⟩ := lw_mid q2 hv hr
  rw [r1]
  simp (disch := first | assumption | omega | exact isB_z | exact isB_o | exact iI_in' (by assumption) (by omega) (by omega) | exact cat_int _ | exact cat_ref _ | exact cat_null | decide) only [↓x_131_572, ↓x_131_573, ↓x_131_574, ↓x_131_575, ↓x_131_576, ↓x_131_577, up1_same, up1_ne, up1_up1, us_0, us_1, us_2, us_3, us_4, us_5, us_6, us_7, us_8, us_9, us_10, us_11, rw_zero, rw_succ, Option.toList_some, Option.toList_none, List.cons_append, List.nil_append, cat_int, cat_ref, cat_null, iI_add, iI_sub, iI_mul, iI_neg, List.length_cons, List.length_nil, ↓reduceIte, va_rf_some, iI_cl, r3, e1]
  simp (disch := first | assumption | omega | exact isB_z | exact isB_o | exact iI_in' (by assumption) (by omega) (by omega) | exact cat_int _ | exact cat_ref _ | exact cat_null | decide) only [↓x_131_578, up1_same, up1_ne, up1_up1, us_0, us_1, us_2, us_3, us_4, us_5, us_6, us_7, us_8, us_9, us_10, us_11, rw_zero, rw_succ, Option.toList_some, Option.toList_none, List.cons_append, List.nil_append, cat_int, cat_ref, cat_null, iI_add, iI_sub, iI_mul, iI_neg, List.length_cons, List.length_nil, ↓reduceIte, va_rf_some]
  refine km_weight hM hS r2 z1b (fun g' A2 u1 u2 => ?_)
  simp (disch := first | assumption | omega | exact isB_z | exact isB_o | exact iI_in' (by assumption) (by omega) (by omega) | exact cat_int _ | exact cat_ref _ | exact cat_null | decide) only [↓x_131_581, up1_same, up1_ne, up1_up1, us_0, us_1, us_2, us_3, us_4, us_5, us_6, us_7, us_8, us_9, us_10, us_11, rw_zero, rw_succ, Option.toList_some, Option.toList_none, List.cons_append, List.nil_append, cat_int, cat_ref, cat_null, iI_add, iI_sub, iI_mul, iI_neg, List.length_cons, List.length_nil, ↓reduceIte, va_rf_some]
  exact hN _ A2 P' (lw_end hT hs q1 q2 u1 u2)
set_option maxHeartbeats 400000 in
theorem lw_keep {i L : Nat} (hK : exK t) (hM : mK t) (hsc : kd t 2 = 10 ∧ ln t 2 = L) (hi : i + 5 ≤ L) (hL : L ≤ 2560) (hI : lwI xs t V A P) (hN : ∀ (V' : Nat → Nat → Value) (A' : Nat → Nat → Int32) (P' : Nat → Nat → Option Nat), lwI xs t V' A' P' → Ev 40 131 655 [.ref 2, .ref 3, .ref 62, .int (iI i)] [] (t, V', A', P') Q) : Ev 40 131 586 [.ref 2, .ref 3, .ref 62, .int (iI i)] [] (t, V, A, P) Q := by
  obtain ⟨S, e, g, h, hv, hr, hT, hs⟩ := hI
  have hS := h.wfS
  obtain ⟨s1, s2⟩ := hsc
  have k3 := hK.1
  have k62 := hM.1
  obtain ⟨z1, z1a, z1c, e1⟩ := iI_of (A 2 ((i : Int) + 1).toNat)
  have z1b : -2147483648 ≤ z1 ∧ z1 < 2147483648 := ⟨z1a, z1c⟩
  simp (disch := first | assumption | omega | exact isB_z | exact isB_o | exact iI_in' (by assumption) (by omega) (by omega) | exact cat_int _ | exact cat_ref _ | exact cat_null | decide) only [↓x_131_586, ↓x_131_587, ↓x_131_588, ↓x_131_589, ↓x_131_590, ↓x_131_591, up1_same, up1_ne, up1_up1, us_0, us_1, us_2, us_3, us_4, us_5, us_6, us_7, us_8, us_9, us_10, us_11, rw_zero, rw_succ, Option.toList_some, Option.toList_none, List.cons_append, List.nil_append, cat_int, cat_ref, cat_null, iI_add, iI_sub, iI_mul, iI_neg, List.length_cons, List.length_nil, ↓reduceIte, va_rf_some, iI_cl, e1]
  simp (disch := first | assumption | omega | exact isB_z | exact isB_o | exact iI_in' (by assumption) (by omega) (by omega) | exact cat_int _ | exact cat_ref _ | exact cat_null | decide) only [↓x_131_592, up1_same, up1_ne, up1_up1, us_0, us_1, us_2, us_3, us_4, us_5, us_6, us_7, us_8, us_9, us_10, us_11, rw_zero, rw_succ, Option.toList_some, Option.toList_none, List.cons_append, List.nil_append, cat_int, cat_ref, cat_null, iI_add, iI_sub, iI_mul, iI_neg, List.length_cons, List.length_nil, ↓reduceIte, va_rf_some]
  refine k_keep hK h z1b (fun V' A' P' e' q1 q2 => ?_)
  obtain ⟨r1, r2, r3⟩ := lw_mid q2 hv hr
  rw [r1]
  simp (disch := first | assumption | omega | exact isB_z | exact isB_o | exact iI_in' (by assumption) (by omega) (by omega) | exact cat_int _ | exact cat_ref _ | exact cat_null | decide) only [↓x_131_595, ↓x_131_596, ↓x_131_597, ↓x_131_598, ↓x_131_599, ↓x_131_600, up1_same, up1_ne, up1_up1, us_0, us_1, us_2, us_3, us_4, us_5, us_6, us_7, us_8, us_9, us_10, us_11, rw_zero, rw_succ, Option.toList_some, Option.toList_none, List.cons_append, List.nil_append, cat_int, cat_ref, cat_null, iI_add, iI_sub, iI_mul, iI_neg, List.length_cons, List.length_nil, ↓reduceIte, va_rf_some, iI_cl, r3, e1]
  simp (disch := first | assumption | omega | exact isB_z | exact isB_o | exact iI_in' (by assumption) (by omega) (by omega) | exact cat_int _ | exact cat_ref _ | exact cat_null | decide) only [↓x_131_601, up1_same, up1_ne, up1_up1, us_0, us_1, us_2, us_3, us_4, us_5, us_6, us_7, us_8, us_9, us_10, us_11, rw_zero, rw_succ, Option.toList_some, Option.toList_none, List.cons_append, List.nil_append, cat_int, cat_ref, cat_null, iI_add, iI_sub, iI_mul, iI_neg, List.length_cons, List.length_nil, ↓reduceIte, va_rf_some]
  refine km_keep hM hS r2 z1b (fun g' A2 u1 u2 => ?_)
  simp (disch := first | assumption | omega | exact isB_z | exact isB_o | exact iI_in' (by assumption) (by omega) (by omega) | exact cat_int _ | exact cat_ref _ | exact cat_null | decide) only [↓x_131_604, up1_same, up1_ne, up1_up1, us_0, us_1, us_2, us_3, us_4, us_5, us_6, us_7, us_8, us_9, us_10, us_11, rw_zero, rw_succ, Option.toList_some, Option.toList_none, List.cons_append, List.nil_append, cat_int, cat_ref, cat_null, iI_add, iI_sub, iI_mul, iI_neg, List.length_cons, List.length_nil, ↓reduceIte, va_rf_some]
  exact hN _ A2 P' (lw_end hT hs q1 q2 u1 u2)
set_option maxHeartbeats 400000 in
theorem lw_back {i L : Nat} (hK : exK t) (hM : mK t) (hsc : kd t 2 = 10 ∧ ln t 2 = L) (hi : i + 5 ≤ L) (hL : L ≤ 2560) (hI : lwI xs t V A P) (hN : ∀ (V' : Nat → Nat → Value) (A' : Nat → Nat → Int32) (P' : Nat → Nat → Option Nat), lwI xs t V' A' P' → Ev 40 131 655 [.ref 2, .ref 3, .ref 62, .int (iI i)] [] (t, V', A', P') Q) : Ev 40 131 609 [.ref 2, .ref 3, .ref 62, .int (iI i)] [] (t, V, A, P) Q := by
  obtain ⟨S, e, g, h, hv, hr, hT, hs⟩ := hI
  have hS := h.wfS
  obtain ⟨s1, s2⟩ := hsc
  have k3 := hK.1
  have k62 := hM.1
  obtain ⟨z1, z1a, z1c, e1⟩ := iI_of (A 2 ((i : Int) + 1).toNat)
  have z1b : -2147483648 ≤ z1 ∧ z1 < 2147483648 := ⟨z1a, z1c⟩
  simp (disch := first | assumption | omega | exact isB_z | exact isB_o | exact iI_in' (by assumption) (by omega) (by omega) | exact cat_int _ | exact cat_ref _ | exact cat_null | decide) only [↓x_131_609, ↓x_131_610, ↓x_131_611, ↓x_131_612, ↓x_131_613, ↓x_131_614, up1_same, up1_ne, up1_up1, us_0, us_1, us_2, us_3, us_4, us_5, us_6, us_7, us_8, us_9, us_10, us_11, rw_zero, rw_succ, Option.toList_some, Option.toList_none, List.cons_append, List.nil_append, cat_int, cat_ref, cat_null, iI_add, iI_sub, iI_mul, iI_neg, List.length_cons, List.length_nil, ↓reduceIte, va_rf_some, iI_cl, e1]
  simp (disch := first | assumption | omega | exact isB_z | exact isB_o | exact iI_in' (by assumption) (by omega) (by omega) | exact cat_int _ | exact cat_ref _ | exact cat_null | decide) only [↓x_131_615, up1_same, up1_ne, up1_up1, us_0, us_1, us_2, us_3, us_4, us_5, us_6, us_7, us_8, us_9, us_10, us_11, rw_zero, rw_succ, Option.toList_some, Option.toList_none, List.cons_append, List.nil_append, cat_int, cat_ref, cat_null, iI_add, iI_sub, iI_mul, iI_neg, List.length_cons, List.length_nil, ↓reduceIte, va_rf_some]
  refine k_back hK h z1b (fun V' A' P' e' q1 q2 => ?_)
  obtain ⟨r1, r2, r3⟩ := lw_mid q2 hv hr
  rw [r1]
  simp (disch := first | assumption | omega | exact isB_z | exact isB_o | exact iI_in' (by assumption) (by omega) (by omega) | exact cat_int _ | exact cat_ref _ | exact cat_null | decide) only [↓x_131_618, ↓x_131_619, ↓x_131_620, ↓x_131_621, ↓x_131_622, ↓x_131_623, up1_same, up1_ne, up1_up1, us_0, us_1, us_2, us_3, us_4, us_5, us_6, us_7, us_8, us_9, us_10, us_11, rw_zero, rw_succ, Option.toList_some, Option.toList_none, List.cons_append, List.nil_append, cat_int, cat_ref, cat_null, iI_add, iI_sub, iI_mul, iI_neg, List.length_cons, List.length_nil, ↓reduceIte, va_rf_some, iI_cl, r3, e1]
  simp (disch := first | assumption | omega | exact isB_z | exact isB_o | exact iI_in' (by assumption) (by omega) (by omega) | exact cat_int _ | exact cat_ref _ | exact cat_null | decide) only [↓x_131_624, up1_same, up1_ne, up1_up1, us_0, us_1, us_2, us_3, us_4, us_5, us_6, us_7, us_8, us_9, us_10, us_11, rw_zero, rw_succ, Option.toList_some, Option.toList_none, List.cons_append, List.nil_append, cat_int, cat_ref, cat_null, iI_add, iI_sub, iI_mul, iI_neg, List.length_cons, List.length_nil, ↓reduceIte, va_rf_some]
  refine km_back hM hS r2 z1b (fun g' A2 u1 u2 => ?_)
  simp (disch := first | assumption | omega | exact isB_z | exact isB_o | exact iI_in' (by assumption) (by omega) (by omega) | exact cat_int _ | exact cat_ref _ | exact cat_null | decide) only [↓x_131_627, up1_same, up1_ne, up1_up1, us_0, us_1, us_2, us_3, us_4, us_5, us_6, us_7, us_8, us_9, us_10, us_11, rw_zero, rw_succ, Option.toList_some, Option.toList_none, List.cons_append, List.nil_append, cat_int, cat_ref, cat_null, iI_add, iI_sub, iI_mul, iI_neg, List.length_cons, List.length_nil, ↓reduceIte, va_rf_some]
  exact hN _ A2 P' (lw_end hT hs q1 q2 u1 u2)
set_option maxHeartbeats 400000 in
theorem lw_count {i L : Nat} (hK : exK t) (hM : mK t) (hsc : kd t 2 = 10 ∧ ln t 2 = L) (hi : i + 5 ≤ L) (hL : L ≤ 2560) (hI : lwI xs t V A P) (hN : ∀ (V' : Nat → Nat → Value) (A' : Nat → Nat → Int32) (P' : Nat → Nat → Option Nat), lwI xs t V' A' P' → Ev 40 131 655 [.ref 2, .ref 3, .ref 62, .int (iI i)] [] (t, V', A', P') Q) : Ev 40 131 632 [.ref 2, .ref 3, .ref 62, .int (iI i)] [] (t, V, A, P) Q := by
  obtain ⟨S, e, g, h, hv, hr, hT, hs⟩ := hI
  have hS := h.wfS
  obtain ⟨s1, s2⟩ := hsc
  have k3 := hK.1
  have k62 := hM.1
  obtain ⟨z1, z1a, z1c, e1⟩ := iI_of (A 2 ((i : Int) + 1).toNat)
  have z1b : -2147483648 ≤ z1 ∧ z1 < 2147483648 := ⟨z1a, z1c⟩
  simp (disch := first | assumption | omega | exact isB_z | exact isB_o | exact iI_in' (by assumption) (by omega) (by omega) | exact cat_int _ | exact cat_ref _ | exact cat_null | decide) only [↓x_131_632, ↓x_131_633, ↓x_131_634, ↓x_131_635, ↓x_131_636, ↓x_131_637, up1_same, up1_ne, up1_up1, us_0, us_1, us_2, us_3, us_4, us_5, us_6, us_7, us_8, us_9, us_10, us_11, rw_zero, rw_succ, Option.toList_some, Option.toList_none, List.cons_append, List.nil_append, cat_int, cat_ref, cat_null, iI_add, iI_sub, iI_mul, iI_neg, List.length_cons, List.length_nil, ↓reduceIte, va_rf_some, iI_cl, e1]
  simp (disch := first | assumption | omega | exact isB_z | exact isB_o | exact iI_in' (by assumption) (by omega) (by omega) | exact cat_int _ | exact cat_ref _ | exact cat_null | decide) only [↓x_131_638, up1_same, up1_ne, up1_up1, us_0, us_1, us_2, us_3, us_4, us_5, us_6, us_7, us_8, us_9, us_10, us_11, rw_zero, rw_succ, Option.toList_some, Option.toList_none, List.cons_append, List.nil_append, cat_int, cat_ref, cat_null, iI_add, iI_sub, iI_mul, iI_neg, List.length_cons, List.length_nil, ↓reduceIte, va_rf_some]
  refine kq_count hK hT h z1b (fun V' A' P' e' q1 q2 => ?_)
  obtain ⟨r1, r2, r3⟩ := lw_mid q2 hv hr
  rw [r1]
  simp (disch := first | assumption | omega | exact isB_z | exact isB_o | exact iI_in' (by assumption) (by omega) (by omega) | exact cat_int _ | exact cat_ref _ | exact cat_null | decide) only [↓x_131_641, ↓x_131_642, ↓x_131_643, ↓x_131_644, ↓x_131_645, ↓x_131_646, up1_same, up1_ne, up1_up1, us_0, us_1, us_2, us_3, us_4, us_5, us_6, us_7, us_8, us_9, us_10, us_11, rw_zero, rw_succ, Option.toList_some, Option.toList_none, List.cons_append, List.nil_append, cat_int, cat_ref, cat_null, iI_add, iI_sub, iI_mul, iI_neg, List.length_cons, List.length_nil, ↓reduceIte, va_rf_some, iI_cl, r3, e1]
  simp (disch := first | assumption | omega | exact isB_z | exact isB_o | exact iI_in' (by assumption) (by omega) (by omega) | exact cat_int _ | exact cat_ref _ | exact cat_null | decide) only [↓x_131_647, up1_same, up1_ne, up1_up1, us_0, us_1, us_2, us_3, us_4, us_5, us_6, us_7, us_8, us_9, us_10, us_11, rw_zero, rw_succ, Option.toList_some, Option.toList_none, List.cons_append, List.nil_append, cat_int, cat_ref, cat_null, iI_add, iI_sub, iI_mul, iI_neg, List.length_cons, List.length_nil, ↓reduceIte, va_rf_some]
  refine km_count hM hS r2 z1b (fun g' A2 u1 u2 => ?_)
  simp (disch := first | assumption | omega | exact isB_z | exact isB_o | exact iI_in' (by assumption) (by omega) (by omega) | exact cat_int _ | exact cat_ref _ | exact cat_null | decide) only [↓x_131_650, up1_same, up1_ne, up1_up1, us_0, us_1, us_2, us_3, us_4, us_5, us_6, us_7, us_8, us_9, us_10, us_11, rw_zero, rw_succ, Option.toList_some, Option.toList_none, List.cons_append, List.nil_append, cat_int, cat_ref, cat_null, iI_add, iI_sub, iI_mul, iI_neg, List.length_cons, List.length_nil, ↓reduceIte, va_rf_some]
  exact hN _ A2 P' (lw_end hT hs q1 q2 u1 u2)
end
