/-! WALK: sum, height, last bit, run, longest -/
abbrev wkR (s h b r g : Int) : Nat → Value := rw' [.int (iI s), .int (iI h), .int (iI b), .int (iI r), .int (iI g)]
/-- height, last bit, run, longest -/
abbrev wS : Type := Int × Int × Int × Int
abbrev wkW (s : Int) (W : wS) : Nat → Value := wkR s W.1 W.2.1 W.2.2.1 W.2.2.2
def wst (W : wS) (x : Int) : wS := (W.1 + (if x = 1 then 1 else -1), x, (if x = W.2.1 then W.2.2.1 + 1 else 1), max W.2.2.2 (if x = W.2.1 then W.2.2.1 + 1 else 1))
/-- in bounds: so many steps were gone -/
def wOK (n : Int) (W : wS) : Prop := -n - 1 ≤ W.1 ∧ W.1 ≤ n + 1 ∧ -9 ≤ W.2.1 ∧ W.2.1 ≤ 1 ∧ 0 ≤ W.2.2.1 ∧ W.2.2.1 ≤ n ∧ 0 ≤ W.2.2.2 ∧ W.2.2.2 ≤ n
theorem wst_OK {n : Int} {W : wS} {x : Int} (h : wOK n W) (h0 : 0 ≤ x) (h1 : x ≤ 1) : wOK (n + 1) (wst W x) := by
  obtain ⟨a, b, c, e⟩ := W
  simp only [wOK, wst] at *
  obtain ⟨q1, q2, q3, q4, q5, q6, q7, q8⟩ := h
  refine ⟨?_, ?_, by omega, by omega, ?_, ?_, ?_, ?_⟩ <;> (repeat' split) <;> omega
/-- what a step's bit breaks -/
def bfl (W : wS) : Nat := (if 6 < W.2.2.1 then 4 else 0) ||| (if 3 < W.1 ∨ W.1 < -3 then 8 else 0)
/-- the six bits of a number, from the highest on -/
def bt6 (n : Int) : List Int := [n / 32 % 2, n / 16 % 2, n / 8 % 2, n / 4 % 2, n / 2 % 2, n % 2]
def tkL (W : wS) (f : Nat) : List Int → wS × Nat
  | [] => (W, f)
  | x :: l => tkL (wst W x) (f ||| bfl (wst W x)) l
def fbr (n s : Int) : Nat := if mn n = -9 then 1 else if fR n s = true then 0 else 2
section
variable {d : Nat} {t : mL} {V : Nat → Nat → Value} {A : Nat → Nat → Int32} {P : Nat → Nat → Option Nat} {Q : Option Value → mM → Prop}
theorem k_start {w : Nat} {s : Int} {W : wS} {u : Int} (hk : kd t w = 2) (hw : V w = wkW s W) : Call (d + 1) 24 [.ref w, .int (iI u)] (t, V, A, P) Q = Q none (t, up1 V w (wkR u u (-9) 0 0), A, P) := by
  simp (disch := first | assumption | omega | exact isB_z | exact isB_o | exact iI_in' (by assumption) (by omega) (by omega) | exact cat_int _ | exact cat_ref _ | exact cat_null | decide) only [c_24, ↓x_24_0, ↓x_24_1, ↓x_24_2, ↓x_24_5, ↓x_24_6, ↓x_24_7, ↓x_24_10, ↓x_24_11, ↓x_24_13, ↓x_24_16, ↓x_24_17, ↓x_24_18, ↓x_24_21, ↓x_24_22, ↓x_24_23, ↓x_24_26, up1_same, up1_ne, up1_up1, us_0, us_1, us_2, us_3, us_4, us_5, us_6, us_7, us_8, us_9, us_10, us_11, rw_zero, rw_succ, Option.toList_some, Option.toList_none, List.cons_append, List.nil_append, cat_int, cat_ref, cat_null, iI_add, iI_sub, iI_mul, iI_neg, List.length_cons, List.length_nil, ↓reduceIte, va_rf_some, wkW, wkR, hw]
theorem k_become {w o : Nat} {s s' : Int} {W W' : wS} (hk : kd t w = 2) (ho : kd t o = 2) (hne : o ≠ w) (hw : V w = wkW s W) (hv : V o = wkW s' W') : Call (d + 1) 25 [.ref w, .ref o] (t, V, A, P) Q = Q none (t, up1 V w (wkW s' W'), A, P) := by
  simp (disch := first | assumption | omega | exact isB_z | exact isB_o | exact iI_in' (by assumption) (by omega) (by omega) | exact cat_int _ | exact cat_ref _ | exact cat_null | decide) only [c_25, ↓x_25_0, ↓x_25_1, ↓x_25_2, ↓x_25_5, ↓x_25_8, ↓x_25_9, ↓x_25_10, ↓x_25_13, ↓x_25_16, ↓x_25_17, ↓x_25_18, ↓x_25_21, ↓x_25_24, ↓x_25_25, ↓x_25_26, ↓x_25_29, ↓x_25_32, ↓x_25_33, ↓x_25_34, ↓x_25_37, ↓x_25_40, up1_same, up1_ne, up1_up1, us_0, us_1, us_2, us_3, us_4, us_5, us_6, us_7, us_8, us_9, us_10, us_11, rw_zero, rw_succ, Option.toList_some, Option.toList_none, List.cons_append, List.nil_append, cat_int, cat_ref, cat_null, iI_add, iI_sub, iI_mul, iI_neg, List.length_cons, List.length_nil, ↓reduceIte, va_rf_some, wkW, wkR, hw, hv]
theorem max_ite (a b : Int) : (if a < b then b else a) = max a b := by
  by_cases h : a < b
  · rw [if_pos h]; omega
  · rw [if_neg h]; omega
theorem k_step {w : Nat} {s n x : Int} {W : wS} (hk : kd t w = 2) (hw : V w = wkW s W) (hW : wOK n W) (hn : n ≤ 100000) (hx1 : 0 ≤ x) (hx2 : x ≤ 1) : Call (d + 1) 26 [.ref w, .int (iI x)] (t, V, A, P) Q = Q none (t, up1 V w (wkW s (wst W x)), A, P) := by
  obtain ⟨h, b, r, g⟩ := W
  obtain ⟨q1, q2, q3, q4, q5, q6, q7, q8⟩ := hW
  simp only at q1 q2 q3 q4 q5 q6 q7 q8
  simp (disch := first | assumption | omega | exact isB_z | exact isB_o | exact iI_in' (by assumption) (by omega) (by omega) | exact cat_int _ | exact cat_ref _ | exact cat_null | decide) only [c_26, ↓x_26_0, ↓x_26_1, ↓x_26_2, ↓x_26_3, ↓x_26_6, ↓x_26_9, ↓x_26_10, ↓x_26_13, ↓x_26_14, ↓x_26_15, ↓x_26_18, up1_same, up1_ne, up1_up1, us_0, us_1, us_2, us_3, us_4, us_5, us_6, us_7, us_8, us_9, us_10, us_11, rw_zero, rw_succ, Option.toList_some, Option.toList_none, List.cons_append, List.nil_append, cat_int, cat_ref, cat_null, iI_add, iI_sub, iI_mul, iI_neg, List.length_cons, List.length_nil, ↓reduceIte, va_rf_some, wkW, wkR, hw, ev_ite, iI_ite, iI_eq]
  simp (disch := first | assumption | omega | exact isB_z | exact isB_o | exact iI_in' (by assumption) (by omega) (by omega) | exact cat_int _ | exact cat_ref _ | exact cat_null | decide) only [↓x_26_19, ↓x_26_22, ↓x_26_23, ↓x_26_24, ↓x_26_27, ↓x_26_28, ↓x_26_29, ↓x_26_32, ↓x_26_33, ↓x_26_34, ↓x_26_37, ↓x_26_38, ↓x_26_41, up1_same, up1_ne, up1_up1, us_0, us_1, us_2, us_3, us_4, us_5, us_6, us_7, us_8, us_9, us_10, us_11, rw_zero, rw_succ, Option.toList_some, Option.toList_none, List.cons_append, List.nil_append, cat_int, cat_ref, cat_null, iI_add, iI_sub, iI_mul, iI_neg, List.length_cons, List.length_nil, ↓reduceIte, va_rf_some, wkW, wkR, hw, ev_ite2, iI_ite, iI_eq]
  simp (disch := first | assumption | omega | exact isB_z | exact isB_o | exact iI_in' (by assumption) (by omega) (by omega) | exact cat_int _ | exact cat_ref _ | exact cat_null | decide) only [↓x_26_42, ↓x_26_43, ↓x_26_46, ↓x_26_47, ↓x_26_48, ↓x_26_51, ↓x_26_52, ↓x_26_55, ↓x_26_58, ↓x_26_61, up1_same, up1_ne, up1_up1, us_0, us_1, us_2, us_3, us_4, us_5, us_6, us_7, us_8, us_9, us_10, us_11, rw_zero, rw_succ, Option.toList_some, Option.toList_none, List.cons_append, List.nil_append, cat_int, cat_ref, cat_null, iI_add, iI_sub, iI_mul, iI_neg, List.length_cons, List.length_nil, ↓reduceIte, va_rf_some, wkW, wkR, hw]
  sorry
end
