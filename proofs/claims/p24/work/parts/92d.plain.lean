/-! plain: read as it was sent, while no bit is turned -/
theorem aPiece_0 {X : aW} {p w : Int} (h0 : 0 ≤ p) (h1 : p < X.1.length) (hw : 0 ≤ w ∧ w ≤ 4) : aPiece X 0 0 p w = if w = 0 then rg X 0 p.toNat else if w = 1 then mn (rg X 0 p.toNat) else if w = 2 then (if fR (rg X 0 p.toNat) (wkG (rg X 0) (-1) p.toNat).1 = true then 1 else 0) else if w = 3 then (brG (rg X 0) (-1) p.toNat : Nat) else sG (wkG (rg X 0) (-1) (p.toNat + 1)).1 := by
  unfold aPiece
  rw [if_pos (by omega), rm_0, if_neg (by omega)]
  rfl
theorem aRead_0 {X : aW} {w : Int} (hw : 0 ≤ w ∧ w ≤ 5) : aRead X 0 0 w = if w = 0 then rm X 0 else if w = 1 then rFi X 0 0 else if w = 2 then rBk X 0 0 else if w = 3 then (rBl X 0 0).1 else if w = 4 then (rBl X 0 0).2 else if rFi X 0 0 = -9 ∨ (rBl X 0 0).2 = -9 then -2000000 else rFi X 0 0 - ((rBl X 0 0).2 - 0) / 6 := by
  unfold aRead
  rw [if_pos (by omega)]
theorem src_b {X : aW} (n : Nat) (b : Nat → Int32) : 0 ≤ (srcF X n b).2 ∧ (srcF X n b).2 ≤ 1000 := by
  have h := arrF_b n (lastK X n) n [] 0 (6 * (X.1.length - n : Nat)) (wkG (sntG X) (-1) (X.1.length - n)) (b, 1000) (wkG_OK _ (Or.inl rfl) _) (by show (0 : Int) ≤ 1000; omega)
  exact h
section
variable {d : Nat} {t : mL} {V : Nat → Nat → Value} {A : Nat → Nat → Int32} {P : Nat → Nat → Option Nat} {μ : mM} {Q : Option Value → mM → Prop} {S : aS} {xs : Nat → Int32}
theorem plain_l (hK : exK t) (hX : wf S.X) (hs : strt S.X) (hQ : ∀ (V : Nat → Nat → Value) (A : Nat → Nat → Int32) (P : Nat → Nat → Option Nat), lwJ xs t V A P S → Ev (d + 20) 79 49 [.ref 3, .int (iI S.X.1.length), .int (iI (stF S.X (S.X.1.length * 6)).1), .int (iI (S.X.1.length * 6 : Nat)), .null] [] (t, V, A, P) Q) : ∀ (n b : Nat) (V : Nat → Nat → Value) (A : Nat → Nat → Int32) (P : Nat → Nat → Option Nat), b + n = S.X.1.length * 6 → lwJ xs t V A P S → Ev (d + 20) 79 10 [.ref 3, .int (iI S.X.1.length), .int (iI (stF S.X b).1), .int (iI (b : Int)), .null] [] (t, V, A, P) Q := by
  have k0 := hK.1
  have h32 := hX.1
  intro n
  induction n with
  | zero =>
    intro b V A P hw hJ
    have c : ¬ (b : Int) < 6 * (S.X.1.length : Int) := by omega
    rw [x_79_10]
    simp (disch := first | assumption | omega | exact isB_z | exact isB_o | exact iI_in' (by assumption) (by omega) (by omega) | exact cat_int _ | exact cat_ref _ | exact cat_null | decide) only [↓x_79_11, ↓x_79_13, ↓x_79_14, ↓x_79_15, up1_same, up1_ne, up1_up1, us_0, us_1, us_2, us_3, us_4, us_5, us_6, us_7, us_8, us_9, us_10, us_11, rw_zero, rw_succ, Option.toList_some, Option.toList_none, List.cons_append, List.nil_append, cat_int, cat_ref, cat_null, iI_add, iI_sub, iI_mul, iI_neg, List.length_cons, List.length_nil, ↓reduceIte, va_rf_some, iI_lt, c]
    have e : b = S.X.1.length * 6 := by omega
    subst e
    exact hQ V A P hJ
  | succ n ih =>
    intro b V A P hw hJ
    have c : (b : Int) < 6 * (S.X.1.length : Int) := by omega
    have ci : (b : Int) + 1 = ((b + 1 : Nat) : Int) := by omega
    have hl := lev_sent hX hs (b := b) (by omega)
    have hbt := btA_b S.X.2 b
    have hab : aBit S.X (b : Int) = btA S.X.2 b := by unfold aBit; rw [if_pos (by omega)]
    have es : (stF S.X b).1 + (2 * btA S.X.2 b - 1) = (stF S.X (b + 1)).1 := by
      show _ = (stF S.X b).1 + (if btA S.X.2 b = 1 then 1 else -1)
      split <;> omega
    have c1 : ¬ (stF S.X (b + 1)).1 < -3 := by omega
    have c2 : ¬ 3 < (stF S.X (b + 1)).1 := by omega
    rw [x_79_10]
    simp (disch := first | assumption | omega | exact isB_z | exact isB_o | exact iI_in' (by assumption) (by omega) (by omega) | exact cat_int _ | exact cat_ref _ | exact cat_null | decide) only [↓x_79_11, ↓x_79_13, ↓x_79_14, ↓x_79_15, ↓x_79_18, ↓x_79_19, ↓x_79_20, ↓x_79_21, ↓x_79_22, up1_same, up1_ne, up1_up1, us_0, us_1, us_2, us_3, us_4, us_5, us_6, us_7, us_8, us_9, us_10, us_11, rw_zero, rw_succ, Option.toList_some, Option.toList_none, List.cons_append, List.nil_append, cat_int, cat_ref, cat_null, iI_add, iI_sub, iI_mul, iI_neg, List.length_cons, List.length_nil, ↓reduceIte, va_rf_some, iI_lt, c]
    refine kJ_bit hK hJ (by omega) (fun V A P hJ => ?_)
    simp (disch := first | assumption | omega | exact isB_z | exact isB_o | exact iI_in' (by assumption) (by omega) (by omega) | exact cat_int _ | exact cat_ref _ | exact cat_null | decide) only [↓x_79_25, ↓x_79_26, ↓x_79_27, ↓x_79_28, ↓x_79_29, up1_same, up1_ne, up1_up1, us_0, us_1, us_2, us_3, us_4, us_5, us_6, us_7, us_8, us_9, us_10, us_11, rw_zero, rw_succ, Option.toList_some, Option.toList_none, List.cons_append, List.nil_append, cat_int, cat_ref, cat_null, iI_add, iI_sub, iI_mul, iI_neg, List.length_cons, List.length_nil, ↓reduceIte, va_rf_some, hab, es]
    simp (disch := first | assumption | omega | exact isB_z | exact isB_o | exact iI_in' (by assumption) (by omega) (by omega) | exact cat_int _ | exact cat_ref _ | exact cat_null | decide) only [↓x_79_30, ↓x_79_31, ↓x_79_33, ↓x_79_36, ↓x_79_37, ↓x_79_38, ↓x_79_41, ↓x_79_42, ↓x_79_43, ↓x_79_46, up1_same, up1_ne, up1_up1, us_0, us_1, us_2, us_3, us_4, us_5, us_6, us_7, us_8, us_9, us_10, us_11, rw_zero, rw_succ, Option.toList_some, Option.toList_none, List.cons_append, List.nil_append, cat_int, cat_ref, cat_null, iI_add, iI_sub, iI_mul, iI_neg, List.length_cons, List.length_nil, ↓reduceIte, va_rf_some, iI_lt, c1, c2, ci]
    exact ih (b + 1) V A P (by omega) hJ
theorem plain_p (hK : exK t) (hX : wf S.X) (hs : strt S.X) {z : Int32} (hQ : ∀ (V : Nat → Nat → Value) (A : Nat → Nat → Int32) (P : Nat → Nat → Option Nat), lwJ xs t V A P S → Ev (d + 20) 79 103 [.ref 3, .int (iI S.X.1.length), .int z, .int (iI S.X.1.length), .null] [] (t, V, A, P) Q) : ∀ (n p : Nat) (V : Nat → Nat → Value) (A : Nat → Nat → Int32) (P : Nat → Nat → Option Nat), p + n = S.X.1.length → lwJ xs t V A P S → Ev (d + 20) 79 51 [.ref 3, .int (iI S.X.1.length), .int z, .int (iI (p : Int)), .null] [] (t, V, A, P) Q := by
  have k0 := hK.1
  have h32 := hX.1
  intro n
  induction n with
  | zero =>
    intro p V A P hw hJ
    have c : ¬ (p : Int) < (S.X.1.length : Int) := by omega
    rw [x_79_51]
    simp (disch := first | assumption | omega | exact isB_z | exact isB_o | exact iI_in' (by assumption) (by omega) (by omega) | exact cat_int _ | exact cat_ref _ | exact cat_null | decide) only [↓x_79_52, ↓x_79_53, up1_same, up1_ne, up1_up1, us_0, us_1, us_2, us_3, us_4, us_5, us_6, us_7, us_8, us_9, us_10, us_11, rw_zero, rw_succ, Option.toList_some, Option.toList_none, List.cons_append, List.nil_append, cat_int, cat_ref, cat_null, iI_add, iI_sub, iI_mul, iI_neg, List.length_cons, List.length_nil, ↓reduceIte, va_rf_some, iI_lt, c]
    have e : p = S.X.1.length := by omega
    subst e
    exact hQ V A P hJ
  | succ n ih =>
    intro p V A P hw hJ
    have c : (p : Int) < (S.X.1.length : Int) := by omega
    have ci : (p : Int) + 1 = ((p + 1 : Nat) : Int) := by omega
    have hp := piece_sent hX hs (p := p) (by omega)
    have hk := hX.2.2.1 p (by omega)
    have tn1 : ((p : Nat) : Int).toNat = p := Int.toNat_natCast _
    have e1 : aPiece S.X 0 0 (p : Int) 1 = S.X.1.getD p 0 := by
      rw [aPiece_0 (by omega) (by omega) (by omega), if_neg (by omega), if_pos rfl, tn1, hp.1]
    have e2 : aPiece S.X 0 0 (p : Int) 2 = 1 := by
      rw [aPiece_0 (by omega) (by omega) (by omega), if_neg (by omega), if_neg (by omega), if_pos rfl, tn1, if_pos hp.2]
    have e3 : aPiece S.X 0 0 (p : Int) 3 = 0 := by
      rw [aPiece_0 (by omega) (by omega) (by omega), if_neg (by omega), if_neg (by omega), if_neg (by omega), if_pos rfl, tn1, br_sent hX hs (by omega)]
      rfl
    have ew : aWord S.X (p : Int) = S.X.1.getD p 0 := by unfold aWord; rw [if_pos (by omega), tn1]
    rw [x_79_51]
    simp (disch := first | assumption | omega | exact isB_z | exact isB_o | exact iI_in' (by assumption) (by omega) (by omega) | exact cat_int _ | exact cat_ref _ | exact cat_null | decide) only [↓x_79_52, ↓x_79_53, ↓x_79_56, ↓x_79_57, ↓x_79_58, ↓x_79_59, ↓x_79_60, ↓x_79_61, up1_same, up1_ne, up1_up1, us_0, us_1, us_2, us_3, us_4, us_5, us_6, us_7, us_8, us_9, us_10, us_11, rw_zero, rw_succ, Option.toList_some, Option.toList_none, List.cons_append, List.nil_append, cat_int, cat_ref, cat_null, iI_add, iI_sub, iI_mul, iI_neg, List.length_cons, List.length_nil, ↓reduceIte, va_rf_some, iI_lt, c]
    refine kJ_piece hK hJ (by omega) (by omega) (by omega) (by omega) (fun V A P hJ => ?_)
    simp (disch := first | assumption | omega | exact isB_z | exact isB_o | exact iI_in' (by assumption) (by omega) (by omega) | exact cat_int _ | exact cat_ref _ | exact cat_null | decide) only [↓x_79_64, ↓x_79_65, ↓x_79_66, up1_same, up1_ne, up1_up1, us_0, us_1, us_2, us_3, us_4, us_5, us_6, us_7, us_8, us_9, us_10, us_11, rw_zero, rw_succ, Option.toList_some, Option.toList_none, List.cons_append, List.nil_append, cat_int, cat_ref, cat_null, iI_add, iI_sub, iI_mul, iI_neg, List.length_cons, List.length_nil, ↓reduceIte, va_rf_some, e1]
    refine kJ_word hK hJ (by omega) (fun V A P hJ => ?_)
    simp (disch := first | assumption | omega | exact isB_z | exact isB_o | exact iI_in' (by assumption) (by omega) (by omega) | exact cat_int _ | exact cat_ref _ | exact cat_null | decide) only [↓x_79_69, ↓x_79_72, ↓x_79_73, ↓x_79_74, ↓x_79_75, ↓x_79_76, ↓x_79_77, up1_same, up1_ne, up1_up1, us_0, us_1, us_2, us_3, us_4, us_5, us_6, us_7, us_8, us_9, us_10, us_11, rw_zero, rw_succ, Option.toList_some, Option.toList_none, List.cons_append, List.nil_append, cat_int, cat_ref, cat_null, iI_add, iI_sub, iI_mul, iI_neg, List.length_cons, List.length_nil, ↓reduceIte, va_rf_some, ew]
    refine kJ_piece hK hJ (by omega) (by omega) (by omega) (by omega) (fun V A P hJ => ?_)
    simp (disch := first | assumption | omega | exact isB_z | exact isB_o | exact iI_in' (by assumption) (by omega) (by omega) | exact cat_int _ | exact cat_ref _ | exact cat_null | decide) only [↓x_79_80, ↓x_79_81, ↓x_79_84, ↓x_79_85, ↓x_79_86, ↓x_79_87, ↓x_79_88, ↓x_79_89, up1_same, up1_ne, up1_up1, us_0, us_1, us_2, us_3, us_4, us_5, us_6, us_7, us_8, us_9, us_10, us_11, rw_zero, rw_succ, Option.toList_some, Option.toList_none, List.cons_append, List.nil_append, cat_int, cat_ref, cat_null, iI_add, iI_sub, iI_mul, iI_neg, List.length_cons, List.length_nil, ↓reduceIte, va_rf_some, e2]
    refine kJ_piece hK hJ (by omega) (by omega) (by omega) (by omega) (fun V A P hJ => ?_)
    simp (disch := first | assumption | omega | exact isB_z | exact isB_o | exact iI_in' (by assumption) (by omega) (by omega) | exact cat_int _ | exact cat_ref _ | exact cat_null | decide) only [↓x_79_92, ↓x_79_95, ↓x_79_96, ↓x_79_97, ↓x_79_100, up1_same, up1_ne, up1_up1, us_0, us_1, us_2, us_3, us_4, us_5, us_6, us_7, us_8, us_9, us_10, us_11, rw_zero, rw_succ, Option.toList_some, Option.toList_none, List.cons_append, List.nil_append, cat_int, cat_ref, cat_null, iI_add, iI_sub, iI_mul, iI_neg, List.length_cons, List.length_nil, ↓reduceIte, va_rf_some, e3, ci]
    exact ih (p + 1) V A P (by omega) hJ
theorem plain_e (hK : exK t) (hX : wf S.X) (hs : strt S.X) {z : Int32} (hQ : hqJ xs t Q (1, S)) : ∀ (k n : Nat) (V : Nat → Nat → Value) (A : Nat → Nat → Int32) (P : Nat → Nat → Option Nat), n + k = 4 → 1 ≤ n → lwJ xs t V A P S → Ev (d + 20) 79 169 [.ref 3, .int (iI S.X.1.length), .int z, .int (iI 1), .int (iI (n : Int))] [] (t, V, A, P) Q := by
  have k0 := hK.1
  have h32 := hX.1
  intro k
  induction k with
  | zero =>
    intro n V A P hn h1 hJ
    have c : ¬ (n : Int) < 4 := by omega
    rw [x_79_169]
    simp (disch := first | assumption | omega | exact isB_z | exact isB_o | exact iI_in' (by assumption) (by omega) (by omega) | exact cat_int _ | exact cat_ref _ | exact cat_null | decide) only [↓x_79_171, ↓x_79_172, ↓x_79_212, ↓x_79_213, up1_same, up1_ne, up1_up1, us_0, us_1, us_2, us_3, us_4, us_5, us_6, us_7, us_8, us_9, us_10, us_11, rw_zero, rw_succ, Option.toList_some, Option.toList_none, List.cons_append, List.nil_append, cat_int, cat_ref, cat_null, iI_add, iI_sub, iI_mul, iI_neg, List.length_cons, List.length_nil, ↓reduceIte, va_rf_some, iI_lt, c]
    exact hQ V A P hJ
  | succ k ih =>
    intro n V A P hn h1 hJ
    have c : (n : Int) < 4 := by omega
    have ci : (n : Int) + 1 = ((n + 1 : Nat) : Int) := by omega
    rw [x_79_169]
    by_cases c2 : (S.X.1.length : Int) < n
    · simp (disch := first | assumption | omega | exact isB_z | exact isB_o | exact iI_in' (by assumption) (by omega) (by omega) | exact cat_int _ | exact cat_ref _ | exact cat_null | decide) only [↓x_79_171, ↓x_79_172, ↓x_79_175, ↓x_79_177, ↓x_79_178, ↓x_79_212, ↓x_79_213, up1_same, up1_ne, up1_up1, us_0, us_1, us_2, us_3, us_4, us_5, us_6, us_7, us_8, us_9, us_10, us_11, rw_zero, rw_succ, Option.toList_some, Option.toList_none, List.cons_append, List.nil_append, cat_int, cat_ref, cat_null, iI_add, iI_sub, iI_mul, iI_neg, List.length_cons, List.length_nil, ↓reduceIte, va_rf_some, iI_lt, c, c2]
      exact hQ V A P hJ
    · simp (disch := first | assumption | omega | exact isB_z | exact isB_o | exact iI_in' (by assumption) (by omega) (by omega) | exact cat_int _ | exact cat_ref _ | exact cat_null | decide) only [↓x_79_171, ↓x_79_172, ↓x_79_175, ↓x_79_177, ↓x_79_178, ↓x_79_181, ↓x_79_182, ↓x_79_185, ↓x_79_186, ↓x_79_188, ↓x_79_189, up1_same, up1_ne, up1_up1, us_0, us_1, us_2, us_3, us_4, us_5, us_6, us_7, us_8, us_9, us_10, us_11, rw_zero, rw_succ, Option.toList_some, Option.toList_none, List.cons_append, List.nil_append, cat_int, cat_ref, cat_null, iI_add, iI_sub, iI_mul, iI_neg, List.length_cons, List.length_nil, ↓reduceIte, va_rf_some, iI_lt, iI_eq, c, c2, show ¬ (1 : Int) = 0 by omega]
      refine kJ_even hK hJ (by omega) (by omega) (fun b V A P hJ => ?_)
      simp (disch := first | assumption | omega | exact isB_z | exact isB_o | exact iI_in' (by assumption) (by omega) (by omega) | exact cat_int _ | exact cat_ref _ | exact cat_null | decide) only [↓x_79_192, ↓x_79_193, ↓x_79_194, up1_same, up1_ne, up1_up1, us_0, us_1, us_2, us_3, us_4, us_5, us_6, us_7, us_8, us_9, us_10, us_11, rw_zero, rw_succ, Option.toList_some, Option.toList_none, List.cons_append, List.nil_append, cat_int, cat_ref, cat_null, iI_add, iI_sub, iI_mul, iI_neg, List.length_cons, List.length_nil, ↓reduceIte, va_rf_some]
      refine kJ_count hK hJ (by omega) (fun V A P hJ => ?_)
      have e4 : aCount S 4 = (stF S.X (S.X.1.length * 6)).2.2.2 := rfl
      have hsb := src_b (X := S.X) n b
      have hle := even_sent hX hs (n := n) (by omega) (by omega) b
      have hl6 := (long_sent hX hs).1
      have c3 : ¬ (stF S.X (S.X.1.length * 6)).2.2.2 < (srcF S.X n b).2 := by omega
      simp (disch := first | assumption | omega | exact isB_z | exact isB_o | exact iI_in' (by assumption) (by omega) (by omega) | exact cat_int _ | exact cat_ref _ | exact cat_null | decide) only [↓x_79_197, ↓x_79_200, ↓x_79_201, ↓x_79_204, ↓x_79_205, ↓x_79_206, ↓x_79_209, up1_same, up1_ne, up1_up1, us_0, us_1, us_2, us_3, us_4, us_5, us_6, us_7, us_8, us_9, us_10, us_11, rw_zero, rw_succ, Option.toList_some, Option.toList_none, List.cons_append, List.nil_append, cat_int, cat_ref, cat_null, iI_add, iI_sub, iI_mul, iI_neg, List.length_cons, List.length_nil, ↓reduceIte, va_rf_some, iI_lt, e4, c3, ci]
      exact ih (n + 1) V A P (by omega) (by omega) hJ
theorem k_plain (hK : exK t) (hJ : lwJ xs t V A P S) (hs : strt S.X) (hQ : hqJ xs t Q (1, S)) : Call (d + 21) 79 [.ref 3] (t, V, A, P) Q := by
  have k0 := hK.1
  have hX := hJ.wo.1
  have h32 := hX.1
  have hl6 := long_sent hX hs
  have hst := stF_OK S.X (S.X.1.length * 6)
  have hsm := sm_b S.X.1
  simp (disch := first | assumption | omega | exact isB_z | exact isB_o | exact iI_in' (by assumption) (by omega) (by omega) | exact cat_int _ | exact cat_ref _ | exact cat_null | decide) only [c_79, ↓x_79_0, ↓x_79_1, ↓x_79_2]
  refine kJ_count hK hJ (by omega) (fun V A P hJ => ?_)
  simp (disch := first | assumption | omega | exact isB_z | exact isB_o | exact iI_in' (by assumption) (by omega) (by omega) | exact cat_int _ | exact cat_ref _ | exact cat_null | decide) only [↓x_79_5, ↓x_79_6, ↓x_79_7, ↓x_79_8, ↓x_79_9, up1_same, up1_ne, up1_up1, us_0, us_1, us_2, us_3, us_4, us_5, us_6, us_7, us_8, us_9, us_10, us_11, rw_zero, rw_succ, Option.toList_some, Option.toList_none, List.cons_append, List.nil_append, cat_int, cat_ref, cat_null, iI_add, iI_sub, iI_mul, iI_neg, List.length_cons, List.length_nil, ↓reduceIte, va_rf_some, aCount_0]
  refine plain_l (S := S) (d := d) hK hX hs (fun V A P hJ => ?_) (S.X.1.length * 6) 0 V A P (by omega) hJ
  simp (disch := first | assumption | omega | exact isB_z | exact isB_o | exact iI_in' (by assumption) (by omega) (by omega) | exact cat_int _ | exact cat_ref _ | exact cat_null | decide) only [↓x_79_49, ↓x_79_50, up1_same, up1_ne, up1_up1, us_0, us_1, us_2, us_3, us_4, us_5, us_6, us_7, us_8, us_9, us_10, us_11, rw_zero, rw_succ, Option.toList_some, Option.toList_none, List.cons_append, List.nil_append, cat_int, cat_ref, cat_null, iI_add, iI_sub, iI_mul, iI_neg, List.length_cons, List.length_nil, ↓reduceIte, va_rf_some]
  refine plain_p (S := S) (d := d) hK hX hs (fun V A P hJ => ?_) S.X.1.length 0 V A P (by omega) hJ
  simp (disch := first | assumption | omega | exact isB_z | exact isB_o | exact iI_in' (by assumption) (by omega) (by omega) | exact cat_int _ | exact cat_ref _ | exact cat_null | decide) only [↓x_79_103, ↓x_79_104, ↓x_79_105, up1_same, up1_ne, up1_up1, us_0, us_1, us_2, us_3, us_4, us_5, us_6, us_7, us_8, us_9, us_10, us_11, rw_zero, rw_succ, Option.toList_some, Option.toList_none, List.cons_append, List.nil_append, cat_int, cat_ref, cat_null, iI_add, iI_sub, iI_mul, iI_neg, List.length_cons, List.length_nil, ↓reduceIte, va_rf_some]
  refine kJ_count hK hJ (by omega) (fun V A P hJ => ?_)
  have e4 : aCount S 4 = (stF S.X (S.X.1.length * 6)).2.2.2 := rfl
  have h0 : 0 ≤ (stF S.X (S.X.1.length * 6)).2.2.2 := hst.2.2.2.2.2.2.1
  have c4 : ¬ 6 < (stF S.X (S.X.1.length * 6)).2.2.2 := by omega
  simp (disch := first | assumption | omega | exact isB_z | exact isB_o | exact iI_in' (by assumption) (by omega) (by omega) | exact cat_int _ | exact cat_ref _ | exact cat_null | decide) only [↓x_79_108, ↓x_79_110, ↓x_79_113, ↓x_79_114, ↓x_79_115, ↓x_79_116, ↓x_79_117, up1_same, up1_ne, up1_up1, us_0, us_1, us_2, us_3, us_4, us_5, us_6, us_7, us_8, us_9, us_10, us_11, rw_zero, rw_succ, Option.toList_some, Option.toList_none, List.cons_append, List.nil_append, cat_int, cat_ref, cat_null, iI_add, iI_sub, iI_mul, iI_neg, List.length_cons, List.length_nil, ↓reduceIte, va_rf_some, iI_lt, e4, c4]
  refine kJ_read hK hJ (by omega) (by omega) (by omega) (fun V A P hJ => ?_)
  have r1 : aRead S.X 0 0 1 = -9 := by rw [aRead_0 (by omega), if_neg (by omega), if_pos rfl, first_sent hX hs]
  have r2 : aRead S.X 0 0 2 = 0 := by rw [aRead_0 (by omega), if_neg (by omega), if_neg (by omega), if_pos rfl, broken_sent hX hs]
  simp (disch := first | assumption | omega | exact isB_z | exact isB_o | exact iI_in' (by assumption) (by omega) (by omega) | exact cat_int _ | exact cat_ref _ | exact cat_null | decide) only [↓x_79_120, ↓x_79_122, ↓x_79_125, ↓x_79_126, ↓x_79_127, ↓x_79_128, ↓x_79_129, up1_same, up1_ne, up1_up1, us_0, us_1, us_2, us_3, us_4, us_5, us_6, us_7, us_8, us_9, us_10, us_11, rw_zero, rw_succ, Option.toList_some, Option.toList_none, List.cons_append, List.nil_append, cat_int, cat_ref, cat_null, iI_add, iI_sub, iI_mul, iI_neg, List.length_cons, List.length_nil, ↓reduceIte, va_rf_some, r1]
  refine kJ_read hK hJ (by omega) (by omega) (by omega) (fun V A P hJ => ?_)
  simp (disch := first | assumption | omega | exact isB_z | exact isB_o | exact iI_in' (by assumption) (by omega) (by omega) | exact cat_int _ | exact cat_ref _ | exact cat_null | decide) only [↓x_79_132, ↓x_79_135, ↓x_79_136, ↓x_79_137, ↓x_79_138, ↓x_79_139, up1_same, up1_ne, up1_up1, us_0, us_1, us_2, us_3, us_4, us_5, us_6, us_7, us_8, us_9, us_10, us_11, rw_zero, rw_succ, Option.toList_some, Option.toList_none, List.cons_append, List.nil_append, cat_int, cat_ref, cat_null, iI_add, iI_sub, iI_mul, iI_neg, List.length_cons, List.length_nil, ↓reduceIte, va_rf_some, r2]
  refine kJ_count hK hJ (by omega) (fun V A P hJ => ?_)
  have e5 : aCount S 1 = sG (sm S.X.1) := rfl
  have e6 : 2 * sG (sm S.X.1) - 1 = sm S.X.1 := by unfold sG; split <;> omega
  simp (disch := first | assumption | omega | exact isB_z | exact isB_o | exact iI_in' (by assumption) (by omega) (by omega) | exact cat_int _ | exact cat_ref _ | exact cat_null | decide) only [↓x_79_142, ↓x_79_143, ↓x_79_144, ↓x_79_145, up1_same, up1_ne, up1_up1, us_0, us_1, us_2, us_3, us_4, us_5, us_6, us_7, us_8, us_9, us_10, us_11, rw_zero, rw_succ, Option.toList_some, Option.toList_none, List.cons_append, List.nil_append, cat_int, cat_ref, cat_null, iI_add, iI_sub, iI_mul, iI_neg, List.length_cons, List.length_nil, ↓reduceIte, va_rf_some, e5, e6, hl6.2]
  rw [x_79_148]
  by_cases c7 : (S.X.1.length : Int) = 0
  · simp (disch := first | assumption | omega | exact isB_z | exact isB_o | exact iI_in' (by assumption) (by omega) (by omega) | exact cat_int _ | exact cat_ref _ | exact cat_null | decide) only [↓x_79_149, ↓x_79_160, ↓x_79_161, ↓x_79_164, ↓x_79_165, ↓x_79_166, ↓x_79_167, up1_same, up1_ne, up1_up1, us_0, us_1, us_2, us_3, us_4, us_5, us_6, us_7, us_8, us_9, us_10, us_11, rw_zero, rw_succ, Option.toList_some, Option.toList_none, List.cons_append, List.nil_append, cat_int, cat_ref, cat_null, iI_add, iI_sub, iI_mul, iI_neg, List.length_cons, List.length_nil, ↓reduceIte, va_rf_some, iI_eq, c7]
    rw [show (0 : Int) = (S.X.1.length : Int) from c7.symm]
    exact plain_e hK hX hs hQ 3 1 V A P (by omega) (by omega) hJ
  · simp (disch := first | assumption | omega | exact isB_z | exact isB_o | exact iI_in' (by assumption) (by omega) (by omega) | exact cat_int _ | exact cat_ref _ | exact cat_null | decide) only [↓x_79_149, ↓x_79_152, ↓x_79_153, ↓x_79_154, up1_same, up1_ne, up1_up1, us_0, us_1, us_2, us_3, us_4, us_5, us_6, us_7, us_8, us_9, us_10, us_11, rw_zero, rw_succ, Option.toList_some, Option.toList_none, List.cons_append, List.nil_append, cat_int, cat_ref, cat_null, iI_add, iI_sub, iI_mul, iI_neg, List.length_cons, List.length_nil, ↓reduceIte, va_rf_some, iI_eq, c7]
    refine kJ_cuts hK hJ (by omega) (fun V A P hJ => ?_)
    have e8 : aCuts S.X 0 = 0 := cuts_sent hX hs (by omega)
    simp (disch := first | assumption | omega | exact isB_z | exact isB_o | exact iI_in' (by assumption) (by omega) (by omega) | exact cat_int _ | exact cat_ref _ | exact cat_null | decide) only [↓x_79_157, ↓x_79_160, ↓x_79_161, ↓x_79_164, ↓x_79_165, ↓x_79_166, ↓x_79_167, up1_same, up1_ne, up1_up1, us_0, us_1, us_2, us_3, us_4, us_5, us_6, us_7, us_8, us_9, us_10, us_11, rw_zero, rw_succ, Option.toList_some, Option.toList_none, List.cons_append, List.nil_append, cat_int, cat_ref, cat_null, iI_add, iI_sub, iI_mul, iI_neg, List.length_cons, List.length_nil, ↓reduceIte, va_rf_some, e8]
    exact plain_e hK hX hs hQ 3 1 V A P (by omega) (by omega) hJ
end
