/-! THE LAW: a turn of its loop, the loop, and all of it -/
section
variable {t : mL} {V : Nat → Nat → Value} {A : Nat → Nat → Int32} {P : Nat → Nat → Option Nat} {μ : mM} {Q : Option Value → mM → Prop} {S : aS} {xs : Nat → Int32} {k : Nat} {y : Int32} {r : Int × aS}
theorem lw_217 (hK : exK t) (hk : k < 26) (hU : S.U.length ≤ 6) (hr : actR S y r) (hJ : lwJ xs t V A P r.2) (hI : S.I 0 = some ([], [])) (hN : ∀ (S' : aS) (V : Nat → Nat → Value) (A : Nat → Nat → Int32) (P : Nat → Nat → Option Nat), S'.T = [] → S'.I 0 = some ([], []) → lwJ xs t V A P S' → Ev 40 84 360 [.ref 2, .ref 3, .int (iI 0), .int (iI (k : Int)), .int y, .long (taF S), .null, .int (iI (S.U.length : Int)), .int (iI 0), .int (iI r.1)] [] (t, V, A, P) Q) : Ev 40 84 217 [.ref 2, .ref 3, .int (iI 0), .int (iI (k : Int)), .int y, .long (taF S), .null, .int (iI (S.U.length : Int)), .int (iI 0), .int (iI r.1)] [] (t, V, A, P) Q := by
  have k0 := hK.1
  obtain ⟨hb, h1, h2, h3, h4⟩ := hr
  simp (disch := first | assumption | omega | exact isB_z | exact isB_o | exact iI_in' (by assumption) (by omega) (by omega) | exact cat_int _ | exact cat_ref _ | exact cat_null | decide) only [↓x_84_217, ↓x_84_218]
  refine kJ_clear (d := 20) hK hJ (fun V A P hJ => ?_)
  have hJ : lwJ xs t V A P (aS.mk r.2.X r.2.U r.2.I []) := hJ
  obtain ⟨S2, hS2⟩ : ∃ S2 : aS, S2 = aS.mk r.2.X r.2.U r.2.I [] := ⟨_, rfl⟩
  rw [← hS2] at hJ
  have hT2 : S2.T = [] := by rw [hS2]
  have hI2 : S2.I 0 = some ([], []) := by rw [hS2]; show r.2.I 0 = _; rw [h3]; exact hI
  by_cases c : r.1 < 0
  · simp (disch := first | assumption | omega | exact isB_z | exact isB_o | exact iI_in' (by assumption) (by omega) (by omega) | exact cat_int _ | exact cat_ref _ | exact cat_null | decide) only [↓x_84_221, ↓x_84_222, ↓x_84_224, up1_same, up1_ne, up1_up1, us_0, us_1, us_2, us_3, us_4, us_5, us_6, us_7, us_8, us_9, us_10, us_11, rw_zero, rw_succ, Option.toList_some, Option.toList_none, List.cons_append, List.nil_append, cat_int, cat_ref, cat_null, iI_add, iI_sub, iI_mul, iI_neg, List.length_cons, List.length_nil, ↓reduceIte, va_rf_some, iI_lt, c]
    exact lw_269 hK hk hJ hT2 hI2 hN
  · simp (disch := first | assumption | omega | exact isB_z | exact isB_o | exact iI_in' (by assumption) (by omega) (by omega) | exact cat_int _ | exact cat_ref _ | exact cat_null | decide) only [↓x_84_221, ↓x_84_222, ↓x_84_224, ↓x_84_227, ↓x_84_229, ↓x_84_231, ↓x_84_232, ↓x_84_233, up1_same, up1_ne, up1_up1, us_0, us_1, us_2, us_3, us_4, us_5, us_6, us_7, us_8, us_9, us_10, us_11, rw_zero, rw_succ, Option.toList_some, Option.toList_none, List.cons_append, List.nil_append, cat_int, cat_ref, cat_null, iI_add, iI_sub, iI_mul, iI_neg, List.length_cons, List.length_nil, ↓reduceIte, va_rf_some, iI_lt, c]
    rw [x_84_234]
    split
    · have hu := undo_pu (S := S) (S2 := S2) (by rw [hS2]; exact h2 (by omega)) hU
      simp (disch := first | assumption | omega | exact isB_z | exact isB_o | exact iI_in' (by assumption) (by omega) (by omega) | exact cat_int _ | exact cat_ref _ | exact cat_null | decide) only [↓x_84_237, ↓x_84_238]
      refine kJ_undo (d := 20) hK hJ (fun V A P hJ => ?_)
      obtain ⟨u1, u2, u3, u4⟩ := hu
      have ht : taF (aUndo S2).2 = taF S := taF_X u2
      have go : ∀ (V : Nat → Nat → Value) (A : Nat → Nat → Int32) (P : Nat → Nat → Option Nat), lwJ xs t V A P (aUndo S2).2 → Ev 40 84 257 [.ref 2, .ref 3, .int (iI 0), .int (iI (k : Int)), .int y, .long (taF S), .null, .int (iI (S.U.length : Int)), .int (iI 0), .int (iI r.1)] [] (t, V, A, P) Q := fun V A P hJ => by
        simp (disch := first | assumption | omega | exact isB_z | exact isB_o | exact iI_in' (by assumption) (by omega) (by omega) | exact cat_int _ | exact cat_ref _ | exact cat_null | decide) only [↓x_84_257, ↓x_84_258]
        refine k_tale (d := 19) hK hJ (fun V A P hJ => ?_)
        rw [ht]
        simp (disch := first | assumption | omega | exact isB_z | exact isB_o | exact iI_in' (by assumption) (by omega) (by omega) | exact cat_int _ | exact cat_ref _ | exact cat_null | decide) only [↓x_84_261, ↓x_84_263, ↓x_84_264, up1_same, up1_ne, up1_up1, us_0, us_1, us_2, us_3, us_4, us_5, us_6, us_7, us_8, us_9, us_10, us_11, rw_zero, rw_succ, Option.toList_some, Option.toList_none, List.cons_append, List.nil_append, cat_int, cat_ref, cat_null, iI_add, iI_sub, iI_mul, iI_neg, List.length_cons, List.length_nil, ↓reduceIte, va_rf_some, lg_self]
        exact lw_269 hK hk hJ (by rw [u4]; exact hT2) (by rw [u3]; exact hI2) hN
      by_cases c6 : (S.U.length : Int) < 6
      · rw [if_pos (by omega)] at u1
        simp (disch := first | assumption | omega | exact isB_z | exact isB_o | exact iI_in' (by assumption) (by omega) (by omega) | exact cat_int _ | exact cat_ref _ | exact cat_null | decide) only [↓x_84_241, ↓x_84_243, ↓x_84_245, ↓x_84_248, ↓x_84_250, ↓x_84_253, ↓x_84_254, up1_same, up1_ne, up1_up1, us_0, us_1, us_2, us_3, us_4, us_5, us_6, us_7, us_8, us_9, us_10, us_11, rw_zero, rw_succ, Option.toList_some, Option.toList_none, List.cons_append, List.nil_append, cat_int, cat_ref, cat_null, iI_add, iI_sub, iI_mul, iI_neg, List.length_cons, List.length_nil, ↓reduceIte, va_rf_some, iI_lt, c6, u1]
        exact go V A P hJ
      · rw [if_neg (by omega)] at u1
        simp (disch := first | assumption | omega | exact isB_z | exact isB_o | exact iI_in' (by assumption) (by omega) (by omega) | exact cat_int _ | exact cat_ref _ | exact cat_null | decide) only [↓x_84_241, ↓x_84_243, ↓x_84_245, ↓x_84_248, ↓x_84_250, ↓x_84_253, ↓x_84_254, up1_same, up1_ne, up1_up1, us_0, us_1, us_2, us_3, us_4, us_5, us_6, us_7, us_8, us_9, us_10, us_11, rw_zero, rw_succ, Option.toList_some, Option.toList_none, List.cons_append, List.nil_append, cat_int, cat_ref, cat_null, iI_add, iI_sub, iI_mul, iI_neg, List.length_cons, List.length_nil, ↓reduceIte, va_rf_some, iI_lt, c6, u1]
        exact go V A P hJ
    · exact lw_269 hK hk hJ hT2 hI2 hN
theorem lw_177 (hK : exK t) (hk : k < 26) (hU : S.U.length ≤ 6) (hr : actR S y r) (hJ : lwJ xs t V A P r.2) (hI : S.I 0 = some ([], [])) (hN : ∀ (S' : aS) (V : Nat → Nat → Value) (A : Nat → Nat → Int32) (P : Nat → Nat → Option Nat), S'.T = [] → S'.I 0 = some ([], []) → lwJ xs t V A P S' → Ev 40 84 360 [.ref 2, .ref 3, .int (iI 0), .int (iI (k : Int)), .int y, .long (taF S), .null, .int (iI (S.U.length : Int)), .int (iI 0), .int (iI r.1)] [] (t, V, A, P) Q) : Ev 40 84 177 [.ref 2, .ref 3, .int (iI 0), .int (iI (k : Int)), .int y, .long (taF S), .null, .int (iI (S.U.length : Int)), .int (iI 0), .int (iI r.1)] [] (t, V, A, P) Q := by
  have k0 := hK.1
  have hr' := hr
  obtain ⟨hb, h1, h2, h3, h4⟩ := hr
  have hT : r.2.T.length ≤ 120 := by obtain ⟨e, h, -⟩ := hJ; exact h.tl
  have c6 : aCount r.2 6 = r.2.T.length := rfl
  simp (disch := first | assumption | omega | exact isB_z | exact isB_o | exact iI_in' (by assumption) (by omega) (by omega) | exact cat_int _ | exact cat_ref _ | exact cat_null | decide) only [↓x_84_177, ↓x_84_179, ↓x_84_181, ↓x_84_182]
  rw [x_84_184]
  by_cases c : y &&& iI 7 = iI 7
  · rw [if_pos c]
    obtain ⟨g1, g2⟩ := h4 c
    by_cases c2 : r.1 < 0
    · have g3 := g1 c2
      have g4 : 0 < (r.2.T.length : Int) := by omega
      simp (disch := first | assumption | omega | exact isB_z | exact isB_o | exact iI_in' (by assumption) (by omega) (by omega) | exact cat_int _ | exact cat_ref _ | exact cat_null | decide) only [↓x_84_187, ↓x_84_189, ↓x_84_192, ↓x_84_193, ↓x_84_195, up1_same, up1_ne, up1_up1, us_0, us_1, us_2, us_3, us_4, us_5, us_6, us_7, us_8, us_9, us_10, us_11, rw_zero, rw_succ, Option.toList_some, Option.toList_none, List.cons_append, List.nil_append, cat_int, cat_ref, cat_null, iI_add, iI_sub, iI_mul, iI_neg, List.length_cons, List.length_nil, ↓reduceIte, va_rf_some, iI_lt, c2]
      refine kJ_count (d := 20) hK hJ (by omega) (fun V A P hJ => ?_)
      simp (disch := first | assumption | omega | exact isB_z | exact isB_o | exact iI_in' (by assumption) (by omega) (by omega) | exact cat_int _ | exact cat_ref _ | exact cat_null | decide) only [↓x_84_198, ↓x_84_200, up1_same, up1_ne, up1_up1, us_0, us_1, us_2, us_3, us_4, us_5, us_6, us_7, us_8, us_9, us_10, us_11, rw_zero, rw_succ, Option.toList_some, Option.toList_none, List.cons_append, List.nil_append, cat_int, cat_ref, cat_null, iI_add, iI_sub, iI_mul, iI_neg, List.length_cons, List.length_nil, ↓reduceIte, va_rf_some, iI_lt, c6, g4]
      exact lw_217 hK hk hU hr' hJ hI hN
    · have g3 := g2 (by omega)
      simp (disch := first | assumption | omega | exact isB_z | exact isB_o | exact iI_in' (by assumption) (by omega) (by omega) | exact cat_int _ | exact cat_ref _ | exact cat_null | decide) only [↓x_84_187, ↓x_84_189, ↓x_84_206, ↓x_84_207, ↓x_84_209, up1_same, up1_ne, up1_up1, us_0, us_1, us_2, us_3, us_4, us_5, us_6, us_7, us_8, us_9, us_10, us_11, rw_zero, rw_succ, Option.toList_some, Option.toList_none, List.cons_append, List.nil_append, cat_int, cat_ref, cat_null, iI_add, iI_sub, iI_mul, iI_neg, List.length_cons, List.length_nil, ↓reduceIte, va_rf_some, iI_lt, c2]
      refine kJ_count (d := 20) hK hJ (by omega) (fun V A P hJ => ?_)
      rw [g3] at c6
      simp (disch := first | assumption | omega | exact isB_z | exact isB_o | exact iI_in' (by assumption) (by omega) (by omega) | exact cat_int _ | exact cat_ref _ | exact cat_null | decide) only [↓x_84_212, up1_same, up1_ne, up1_up1, us_0, us_1, us_2, us_3, us_4, us_5, us_6, us_7, us_8, us_9, us_10, us_11, rw_zero, rw_succ, Option.toList_some, Option.toList_none, List.cons_append, List.nil_append, cat_int, cat_ref, cat_null, iI_add, iI_sub, iI_mul, iI_neg, List.length_cons, List.length_nil, ↓reduceIte, va_rf_some, c6]
      exact lw_217 hK hk hU hr' hJ hI hN
  · rw [if_neg c]
    exact lw_217 hK hk hU hr' hJ hI hN
theorem lw_121 (hK : exK t) (hk : k < 26) (hU : S.U.length ≤ 6) (hr : actR S y r) (hJ : lwJ xs t V A P r.2) (hI : S.I 0 = some ([], [])) (hN : ∀ (S' : aS) (V : Nat → Nat → Value) (A : Nat → Nat → Int32) (P : Nat → Nat → Option Nat), S'.T = [] → S'.I 0 = some ([], []) → lwJ xs t V A P S' → Ev 40 84 360 [.ref 2, .ref 3, .int (iI 0), .int (iI (k : Int)), .int y, .long (taF S), .null, .int (iI (S.U.length : Int)), .int (iI 0), .int (iI r.1)] [] (t, V, A, P) Q) : Ev 40 84 121 [.ref 2, .ref 3, .int (iI 0), .int (iI (k : Int)), .int y, .long (taF S), .null, .int (iI (S.U.length : Int)), .int (iI 0), .int (iI r.1)] [] (t, V, A, P) Q := by
  have k0 := hK.1
  have hr' := hr
  obtain ⟨hb, h1, h2, h3, h4⟩ := hr
  have c7 : aCount r.2 7 = r.2.U.length := rfl
  by_cases c2 : r.1 < 0
  · obtain ⟨g1, g2⟩ := h1 c2
    have ht : taF r.2 = taF S := taF_X g1
    rw [g2] at c7
    simp (disch := first | assumption | omega | exact isB_z | exact isB_o | exact iI_in' (by assumption) (by omega) (by omega) | exact cat_int _ | exact cat_ref _ | exact cat_null | decide) only [↓x_84_121, ↓x_84_123, ↓x_84_126, ↓x_84_127, up1_same, up1_ne, up1_up1, us_0, us_1, us_2, us_3, us_4, us_5, us_6, us_7, us_8, us_9, us_10, us_11, rw_zero, rw_succ, Option.toList_some, Option.toList_none, List.cons_append, List.nil_append, cat_int, cat_ref, cat_null, iI_add, iI_sub, iI_mul, iI_neg, List.length_cons, List.length_nil, ↓reduceIte, va_rf_some, iI_lt, c2]
    refine k_tale (d := 19) hK hJ (fun V A P hJ => ?_)
    rw [ht]
    simp (disch := first | assumption | omega | exact isB_z | exact isB_o | exact iI_in' (by assumption) (by omega) (by omega) | exact cat_int _ | exact cat_ref _ | exact cat_null | decide) only [↓x_84_130, ↓x_84_132, ↓x_84_133, ↓x_84_136, ↓x_84_137, ↓x_84_139, up1_same, up1_ne, up1_up1, us_0, us_1, us_2, us_3, us_4, us_5, us_6, us_7, us_8, us_9, us_10, us_11, rw_zero, rw_succ, Option.toList_some, Option.toList_none, List.cons_append, List.nil_append, cat_int, cat_ref, cat_null, iI_add, iI_sub, iI_mul, iI_neg, List.length_cons, List.length_nil, ↓reduceIte, va_rf_some, lg_self]
    refine kJ_count (d := 20) hK hJ (by omega) (fun V A P hJ => ?_)
    simp (disch := first | assumption | omega | exact isB_z | exact isB_o | exact iI_in' (by assumption) (by omega) (by omega) | exact cat_int _ | exact cat_ref _ | exact cat_null | decide) only [↓x_84_142, ↓x_84_144, up1_same, up1_ne, up1_up1, us_0, us_1, us_2, us_3, us_4, us_5, us_6, us_7, us_8, us_9, us_10, us_11, rw_zero, rw_succ, Option.toList_some, Option.toList_none, List.cons_append, List.nil_append, cat_int, cat_ref, cat_null, iI_add, iI_sub, iI_mul, iI_neg, List.length_cons, List.length_nil, ↓reduceIte, va_rf_some, c7]
    exact lw_177 hK hk hU hr' hJ hI hN
  · have g2 := h2 (by omega)
    have hl := pu_len S.X hU
    rw [g2] at c7
    by_cases c6 : (S.U.length : Int) < 6
    · rw [if_pos (by omega)] at hl
      have c8 : aCount r.2 7 = (S.U.length : Int) + 1 := by rw [c7, hl]; rfl
      simp (disch := first | assumption | omega | exact isB_z | exact isB_o | exact iI_in' (by assumption) (by omega) (by omega) | exact cat_int _ | exact cat_ref _ | exact cat_null | decide) only [↓x_84_121, ↓x_84_123, ↓x_84_150, ↓x_84_151, ↓x_84_153, up1_same, up1_ne, up1_up1, us_0, us_1, us_2, us_3, us_4, us_5, us_6, us_7, us_8, us_9, us_10, us_11, rw_zero, rw_succ, Option.toList_some, Option.toList_none, List.cons_append, List.nil_append, cat_int, cat_ref, cat_null, iI_add, iI_sub, iI_mul, iI_neg, List.length_cons, List.length_nil, ↓reduceIte, va_rf_some, iI_lt, c2]
      refine kJ_count (d := 20) hK hJ (by omega) (fun V A P hJ => ?_)
      simp (disch := first | assumption | omega | exact isB_z | exact isB_o | exact iI_in' (by assumption) (by omega) (by omega) | exact cat_int _ | exact cat_ref _ | exact cat_null | decide) only [↓x_84_156, ↓x_84_158, ↓x_84_160, ↓x_84_163, ↓x_84_165, ↓x_84_166, ↓x_84_167, ↓x_84_170, ↓x_84_172, up1_same, up1_ne, up1_up1, us_0, us_1, us_2, us_3, us_4, us_5, us_6, us_7, us_8, us_9, us_10, us_11, rw_zero, rw_succ, Option.toList_some, Option.toList_none, List.cons_append, List.nil_append, cat_int, cat_ref, cat_null, iI_add, iI_sub, iI_mul, iI_neg, List.length_cons, List.length_nil, ↓reduceIte, va_rf_some, iI_lt, c6, c8]
      exact lw_177 hK hk hU hr' hJ hI hN
    · rw [if_neg (by omega)] at hl
      have c8 : aCount r.2 7 = 6 := by rw [c7, hl]; rfl
      simp (disch := first | assumption | omega | exact isB_z | exact isB_o | exact iI_in' (by assumption) (by omega) (by omega) | exact cat_int _ | exact cat_ref _ | exact cat_null | decide) only [↓x_84_121, ↓x_84_123, ↓x_84_150, ↓x_84_151, ↓x_84_153, up1_same, up1_ne, up1_up1, us_0, us_1, us_2, us_3, us_4, us_5, us_6, us_7, us_8, us_9, us_10, us_11, rw_zero, rw_succ, Option.toList_some, Option.toList_none, List.cons_append, List.nil_append, cat_int, cat_ref, cat_null, iI_add, iI_sub, iI_mul, iI_neg, List.length_cons, List.length_nil, ↓reduceIte, va_rf_some, iI_lt, c2]
      refine kJ_count (d := 20) hK hJ (by omega) (fun V A P hJ => ?_)
      simp (disch := first | assumption | omega | exact isB_z | exact isB_o | exact iI_in' (by assumption) (by omega) (by omega) | exact cat_int _ | exact cat_ref _ | exact cat_null | decide) only [↓x_84_156, ↓x_84_158, ↓x_84_160, ↓x_84_163, ↓x_84_165, ↓x_84_166, ↓x_84_167, ↓x_84_170, ↓x_84_172, up1_same, up1_ne, up1_up1, us_0, us_1, us_2, us_3, us_4, us_5, us_6, us_7, us_8, us_9, us_10, us_11, rw_zero, rw_succ, Option.toList_some, Option.toList_none, List.cons_append, List.nil_append, cat_int, cat_ref, cat_null, iI_add, iI_sub, iI_mul, iI_neg, List.length_cons, List.length_nil, ↓reduceIte, va_rf_some, iI_lt, c6, c8]
      exact lw_177 hK hk hU hr' hJ hI hN
end
section
variable {t : mL} {V : Nat → Nat → Value} {A : Nat → Nat → Int32} {P : Nat → Nat → Option Nat} {μ : mM} {Q : Option Value → mM → Prop} {xs : Nat → Int32}
theorem lw_loop {L : Nat} (hK : exK t) (hsc : kd t 2 = 10 ∧ ln t 2 = L) (hL : L ≤ 260) (hQ : ∀ (V' : Nat → Nat → Value) (A' : Nat → Nat → Int32) (P' : Nat → Nat → Option Nat), Q (some (.int (iI 1))) (t, V', A', P')) : ∀ (n k : Nat) (S : aS) (a4 a5 a7 a8 a9 : Value) (V : Nat → Nat → Value) (A : Nat → Nat → Int32) (P : Nat → Nat → Option Nat), k + n = 26 → S.T = [] → S.I 0 = some ([], []) → a4.category = 1 → lwJ xs t V A P S → Ev 40 84 78 [.ref 2, .ref 3, .int (iI 0), .int (iI (k : Int)), a4, a5, .null, a7, a8, a9] [] (t, V, A, P) Q := by
  have k0 := hK.1
  intro n
  induction n with
  | zero =>
    intro k S a4 a5 a7 a8 a9 V A P hk hT hI h4 hJ
    have c : ¬ (k : Int) < 26 := by omega
    rw [x_84_78]
    simp (disch := first | assumption | omega | exact isB_z | exact isB_o | exact iI_in' (by assumption) (by omega) (by omega) | exact cat_int _ | exact cat_ref _ | exact cat_null | decide) only [↓x_84_79, ↓x_84_81, up1_same, up1_ne, up1_up1, us_0, us_1, us_2, us_3, us_4, us_5, us_6, us_7, us_8, us_9, us_10, us_11, rw_zero, rw_succ, Option.toList_some, Option.toList_none, List.cons_append, List.nil_append, cat_int, cat_ref, cat_null, iI_add, iI_sub, iI_mul, iI_neg, List.length_cons, List.length_nil, ↓reduceIte, va_rf_some, iI_lt, c]
    exact lw_tail h4 hK hJ hI hQ
  | succ n ih =>
    intro k S a4 a5 a7 a8 a9 V A P hk hT hI h4 hJ
    have c : (k : Int) < 26 := by omega
    have ci : (k : Int) + 1 = ((k + 1 : Nat) : Int) := by omega
    have hwo := hJ.wo
    have c6 : aCount S 6 = 0 := by
      have : aCount S 6 = S.T.length := rfl
      rw [this, hT]
      rfl
    have c7 : aCount S 7 = S.U.length := rfl
    rw [x_84_78]
    simp (disch := first | assumption | omega | exact isB_z | exact isB_o | exact iI_in' (by assumption) (by omega) (by omega) | exact cat_int _ | exact cat_ref _ | exact cat_null | decide) only [↓x_84_79, ↓x_84_81, ↓x_84_84, ↓x_84_85, ↓x_84_86, up1_same, up1_ne, up1_up1, us_0, us_1, us_2, us_3, us_4, us_5, us_6, us_7, us_8, us_9, us_10, us_11, rw_zero, rw_succ, Option.toList_some, Option.toList_none, List.cons_append, List.nil_append, cat_int, cat_ref, cat_null, iI_add, iI_sub, iI_mul, iI_neg, List.length_cons, List.length_nil, ↓reduceIte, va_rf_some, iI_lt, c]
    refine k_cell (d := 39) (L := L) ⟨hsc.1, by rw [hsc.2]⟩ (by omega) (by omega) (by omega) (fun y => ?_)
    simp (disch := first | assumption | omega | exact isB_z | exact isB_o | exact iI_in' (by assumption) (by omega) (by omega) | exact cat_int _ | exact cat_ref _ | exact cat_null | decide) only [↓x_84_89, ↓x_84_91, ↓x_84_92, up1_same, up1_ne, up1_up1, us_0, us_1, us_2, us_3, us_4, us_5, us_6, us_7, us_8, us_9, us_10, us_11, rw_zero, rw_succ, Option.toList_some, Option.toList_none, List.cons_append, List.nil_append, cat_int, cat_ref, cat_null, iI_add, iI_sub, iI_mul, iI_neg, List.length_cons, List.length_nil, ↓reduceIte, va_rf_some]
    refine k_tale (d := 19) hK hJ (fun V A P hJ => ?_)
    simp (disch := first | assumption | omega | exact isB_z | exact isB_o | exact iI_in' (by assumption) (by omega) (by omega) | exact cat_int _ | exact cat_ref _ | exact cat_null | decide) only [↓x_84_95, ↓x_84_97, ↓x_84_98, ↓x_84_100, up1_same, up1_ne, up1_up1, us_0, us_1, us_2, us_3, us_4, us_5, us_6, us_7, us_8, us_9, us_10, us_11, rw_zero, rw_succ, Option.toList_some, Option.toList_none, List.cons_append, List.nil_append, cat_int, cat_ref, cat_null, iI_add, iI_sub, iI_mul, iI_neg, List.length_cons, List.length_nil, ↓reduceIte, va_rf_some]
    refine kJ_count (d := 20) hK hJ (by omega) (fun V A P hJ => ?_)
    simp (disch := first | assumption | omega | exact isB_z | exact isB_o | exact iI_in' (by assumption) (by omega) (by omega) | exact cat_int _ | exact cat_ref _ | exact cat_null | decide) only [↓x_84_103, ↓x_84_105, ↓x_84_106, ↓x_84_108, up1_same, up1_ne, up1_up1, us_0, us_1, us_2, us_3, us_4, us_5, us_6, us_7, us_8, us_9, us_10, us_11, rw_zero, rw_succ, Option.toList_some, Option.toList_none, List.cons_append, List.nil_append, cat_int, cat_ref, cat_null, iI_add, iI_sub, iI_mul, iI_neg, List.length_cons, List.length_nil, ↓reduceIte, va_rf_some, c7]
    refine kJ_count (d := 20) hK hJ (by omega) (fun V A P hJ => ?_)
    simp (disch := first | assumption | omega | exact isB_z | exact isB_o | exact iI_in' (by assumption) (by omega) (by omega) | exact cat_int _ | exact cat_ref _ | exact cat_null | decide) only [↓x_84_111, ↓x_84_113, ↓x_84_114, ↓x_84_116, up1_same, up1_ne, up1_up1, us_0, us_1, us_2, us_3, us_4, us_5, us_6, us_7, us_8, us_9, us_10, us_11, rw_zero, rw_succ, Option.toList_some, Option.toList_none, List.cons_append, List.nil_append, cat_int, cat_ref, cat_null, iI_add, iI_sub, iI_mul, iI_neg, List.length_cons, List.length_nil, ↓reduceIte, va_rf_some, c6]
    refine k_act (d := 18) hK y hJ hT (fun r hr V A P hJ => ?_)
    simp (disch := first | assumption | omega | exact isB_z | exact isB_o | exact iI_in' (by assumption) (by omega) (by omega) | exact cat_int _ | exact cat_ref _ | exact cat_null | decide) only [↓x_84_119, up1_same, up1_ne, up1_up1, us_0, us_1, us_2, us_3, us_4, us_5, us_6, us_7, us_8, us_9, us_10, us_11, rw_zero, rw_succ, Option.toList_some, Option.toList_none, List.cons_append, List.nil_append, cat_int, cat_ref, cat_null, iI_add, iI_sub, iI_mul, iI_neg, List.length_cons, List.length_nil, ↓reduceIte, va_rf_some]
    refine lw_121 hK (by omega) hwo.2 hr hJ hI (fun S' V A P hT' hI' hJ' => ?_)
    simp (disch := first | assumption | omega | exact isB_z | exact isB_o | exact iI_in' (by assumption) (by omega) (by omega) | exact cat_int _ | exact cat_ref _ | exact cat_null | decide) only [↓x_84_360, ↓x_84_363, up1_same, up1_ne, up1_up1, us_0, us_1, us_2, us_3, us_4, us_5, us_6, us_7, us_8, us_9, us_10, us_11, rw_zero, rw_succ, Option.toList_some, Option.toList_none, List.cons_append, List.nil_append, cat_int, cat_ref, cat_null, iI_add, iI_sub, iI_mul, iI_neg, List.length_cons, List.length_nil, ↓reduceIte, va_rf_some, ci]
    exact ih (k + 1) S' _ _ _ _ _ V A P (by omega) hT' hI' rfl hJ'
end
