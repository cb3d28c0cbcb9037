/-! WALK: sum, height, last bit, run, longest -/
abbrev wkR (s h b r g : Int) : Nat → Value := rw' [.int (iI s), .int (iI h), .int (iI b), .int (iI r), .int (iI g)]
/-- height, last bit, run, longest -/
abbrev wS : Type := Int × Int × Int × Int
abbrev wkW (s : Int) (W : wS) : Nat → Value := wkR s W.1 W.2.1 W.2.2.1 W.2.2.2
def wst (W : wS) (x : Int) : wS := (W.1 + (if x = 1 then 1 else -1), x, (if x = W.2.1 then W.2.2.1 + 1 else 1), max W.2.2.2 (if x = W.2.1 then W.2.2.1 + 1 else 1))
/-- in bounds: so many steps were gone -/
def wOK (n : Int) (W : wS) : Prop := -n - 1 ≤ W.1 ∧ W.1 ≤ n + 1 ∧ -9 ≤ W.2.1 ∧ W.2.1 ≤ 1 ∧ 0 ≤ W.2.2.1 ∧ W.2.2.1 ≤ n ∧ 0 ≤ W.2.2.2 ∧ W.2.2.2 ≤ n
theorem wst_OK {n : Int} {W : wS} {x : Int} (h : wOK n W) (h0 : 0 ≤ x) (h1 : x ≤ 1) : wOK (n + 1) (wst W x) := by
  obtain ⟨a, b, c, e⟩ := W
  simp only [wOK, wst] at *
  obtain ⟨q1, q2, q3, q4, q5, q6, q7, q8⟩ := h
  refine ⟨?_, ?_, by omega, by omega, ?_, ?_, ?_, ?_⟩ <;> (repeat' split) <;> omega
/-- what a step's bit breaks -/
def bfl (W : wS) : Nat := (if 6 < W.2.2.1 then 4 else 0) ||| (if 3 < W.1 ∨ W.1 < -3 then 8 else 0)
/-- the six bits of a number, from the highest on -/
def bt6 (n : Int) : List Int := [n / 32 % 2, n / 16 % 2, n / 8 % 2, n / 4 % 2, n / 2 % 2, n % 2]
def tkL (W : wS) (f : Nat) : List Int → wS × Nat
  | [] => (W, f)
  | x :: l => tkL (wst W x) (f ||| bfl (wst W x)) l
def fbr (n s : Int) : Nat := if mn n = -9 then 1 else if fR n s = true then 0 else 2
section
variable {d : Nat} {t : mL} {V : Nat → Nat → Value} {A : Nat → Nat → Int32} {P : Nat → Nat → Option Nat} {Q : Option Value → mM → Prop}
theorem k_start {w : Nat} {s : Int} {W : wS} {u : Int} (hk : kd t w = 2) (hw : V w = wkW s W) : Call (d + 1) 21 [.ref w, .int (iI u)] (t, V, A, P) Q = Q none (t, up1 V w (wkR u u (-9) 0 0), A, P) := by
  simp (disch := first | assumption | omega | exact isB_z | exact isB_o | exact iI_in' (by assumption) (by omega) (by omega) | exact cat_int _ | exact cat_ref _ | exact cat_null | decide) only [c_21, ↓x_21_0, ↓x_21_1, ↓x_21_2, ↓x_21_5, ↓x_21_6, ↓x_21_7, ↓x_21_10, ↓x_21_11, ↓x_21_13, ↓x_21_16, ↓x_21_17, ↓x_21_18, ↓x_21_21, ↓x_21_22, ↓x_21_23, ↓x_21_26, up1_same, up1_ne, up1_up1, us_0, us_1, us_2, us_3, us_4, us_5, us_6, us_7, us_8, us_9, us_10, us_11, rw_zero, rw_succ, Option.toList_some, Option.toList_none, List.cons_append, List.nil_append, cat_int, cat_ref, cat_null, iI_add, iI_sub, iI_mul, iI_neg, List.length_cons, List.length_nil, ↓reduceIte, va_rf_some, wkW, wkR, hw]
theorem k_become {w o : Nat} {s s' : Int} {W W' : wS} (hk : kd t w = 2) (ho : kd t o = 2) (hne : o ≠ w) (hw : V w = wkW s W) (hv : V o = wkW s' W') : Call (d + 1) 22 [.ref w, .ref o] (t, V, A, P) Q = Q none (t, up1 V w (wkW s' W'), A, P) := by
  simp (disch := first | assumption | omega | exact isB_z | exact isB_o | exact iI_in' (by assumption) (by omega) (by omega) | exact cat_int _ | exact cat_ref _ | exact cat_null | decide) only [c_22, ↓x_22_0, ↓x_22_1, ↓x_22_2, ↓x_22_5, ↓x_22_8, ↓x_22_9, ↓x_22_10, ↓x_22_13, ↓x_22_16, ↓x_22_17, ↓x_22_18, ↓x_22_21, ↓x_22_24, ↓x_22_25, ↓x_22_26, ↓x_22_29, ↓x_22_32, ↓x_22_33, ↓x_22_34, ↓x_22_37, ↓x_22_40, up1_same, up1_ne, up1_up1, us_0, us_1, us_2, us_3, us_4, us_5, us_6, us_7, us_8, us_9, us_10, us_11, rw_zero, rw_succ, Option.toList_some, Option.toList_none, List.cons_append, List.nil_append, cat_int, cat_ref, cat_null, iI_add, iI_sub, iI_mul, iI_neg, List.length_cons, List.length_nil, ↓reduceIte, va_rf_some, wkW, wkR, hw, hv]
theorem max_ite (a b : Int) : (if a < b then b else a) = max a b := by
  by_cases h : a < b
  · rw [if_pos h]; omega
  · rw [if_neg h]; omega
theorem max_iI {a b : Int} (h1 : -2147483648 ≤ a) (h2 : a < 2147483648) (h3 : -2147483648 ≤ b) (h4 : b < 2147483648) : (if iI a < iI b then iI b else iI a) = iI (max a b) := by
  by_cases h : a < b
  · rw [if_pos (by rw [iI_lt h1 h2 h3 h4]; exact h)]; congr 1; omega
  · rw [if_neg (by rw [iI_lt h1 h2 h3 h4]; exact h)]; congr 1; omega
theorem k_step {w : Nat} {s n x : Int} {W : wS} (hk : kd t w = 2) (hw : V w = wkW s W) (hW : wOK n W) (hn : n ≤ 100000) (hx1 : 0 ≤ x) (hx2 : x ≤ 1) : Call (d + 1) 23 [.ref w, .int (iI x)] (t, V, A, P) Q = Q none (t, up1 V w (wkW s (wst W x)), A, P) := by
  obtain ⟨h, b, r, g⟩ := W
  obtain ⟨q1, q2, q3, q4, q5, q6, q7, q8⟩ := hW
  simp only at q1 q2 q3 q4 q5 q6 q7 q8
  simp (disch := first | assumption | omega | exact isB_z | exact isB_o | exact iI_in' (by assumption) (by omega) (by omega) | exact cat_int _ | exact cat_ref _ | exact cat_null | decide) only [c_23, ↓x_23_0, ↓x_23_1, ↓x_23_2, ↓x_23_3, ↓x_23_6, ↓x_23_9, ↓x_23_10, ↓x_23_13, ↓x_23_14, ↓x_23_15, ↓x_23_18, up1_same, up1_ne, up1_up1, us_0, us_1, us_2, us_3, us_4, us_5, us_6, us_7, us_8, us_9, us_10, us_11, rw_zero, rw_succ, Option.toList_some, Option.toList_none, List.cons_append, List.nil_append, cat_int, cat_ref, cat_null, iI_add, iI_sub, iI_mul, iI_neg, List.length_cons, List.length_nil, ↓reduceIte, va_rf_some, wkW, wkR, hw, ev_ite, iI_ite, iI_eq]
  simp (disch := first | assumption | omega | exact isB_z | exact isB_o | exact iI_in' (by assumption) (by omega) (by omega) | exact cat_int _ | exact cat_ref _ | exact cat_null | decide) only [↓x_23_19, ↓x_23_22, ↓x_23_23, ↓x_23_24, ↓x_23_27, ↓x_23_28, ↓x_23_29, ↓x_23_32, ↓x_23_33, ↓x_23_34, ↓x_23_37, ↓x_23_38, ↓x_23_41, up1_same, up1_ne, up1_up1, us_0, us_1, us_2, us_3, us_4, us_5, us_6, us_7, us_8, us_9, us_10, us_11, rw_zero, rw_succ, Option.toList_some, Option.toList_none, List.cons_append, List.nil_append, cat_int, cat_ref, cat_null, iI_add, iI_sub, iI_mul, iI_neg, List.length_cons, List.length_nil, ↓reduceIte, va_rf_some, wkW, wkR, hw, ev_ite2, iI_ite, iI_eq]
  simp (disch := first | assumption | omega | exact isB_z | exact isB_o | exact iI_in' (by assumption) (by omega) (by omega) | exact cat_int _ | exact cat_ref _ | exact cat_null | decide) only [↓x_23_42, ↓x_23_43, ↓x_23_46, ↓x_23_47, ↓x_23_48, ↓x_23_51, ↓x_23_52, ↓x_23_55, ↓x_23_58, ↓x_23_61, up1_same, up1_ne, up1_up1, us_0, us_1, us_2, us_3, us_4, us_5, us_6, us_7, us_8, us_9, us_10, us_11, rw_zero, rw_succ, Option.toList_some, Option.toList_none, List.cons_append, List.nil_append, cat_int, cat_ref, cat_null, iI_add, iI_sub, iI_mul, iI_neg, List.length_cons, List.length_nil, ↓reduceIte, va_rf_some, wkW, wkR, hw]
  simp only [wst]
  have hz : 0 ≤ (if x = b then r + 1 else 1) ∧ (if x = b then r + 1 else 1) ≤ n + 1 := by split <;> omega
  rw [max_iI (by omega) (by omega) (by omega) (by omega)]
theorem k_formBreach {w : Nat} {s n : Int} {W : wS} (hT : tabs t A) (hk : kd t w = 2) (hw : V w = wkW s W) (hs : s = -1 ∨ s = 1) (h0 : 0 ≤ n) (h1 : n < 64) : Call (d + 5) 25 [.ref w, .int (iI n)] (t, V, A, P) Q = Q (some (.int (iI (fbr n s)))) (t, V, A, P) := by
  have hm := mn_b h0 h1
  simp (disch := first | assumption | omega | exact isB_z | exact isB_o | exact iI_in' (by assumption) (by omega) (by omega) | exact cat_int _ | exact cat_ref _ | exact cat_null | decide) only [c_25, ↓x_25_0, ↓x_25_1, ↓x_25_4, ↓x_25_6, ↓x_25_9, ↓x_25_10, ↓x_25_11, ↓x_25_12, ↓x_25_13, ↓x_25_16, ↓x_25_19, ↓x_25_22, ↓x_25_23, ↓x_25_26, ↓x_25_27, up1_same, up1_ne, up1_up1, us_0, us_1, us_2, us_3, us_4, us_5, us_6, us_7, us_8, us_9, us_10, us_11, rw_zero, rw_succ, Option.toList_some, Option.toList_none, List.cons_append, List.nil_append, cat_int, cat_ref, cat_null, iI_add, iI_sub, iI_mul, iI_neg, List.length_cons, List.length_nil, ↓reduceIte, va_rf_some, wkW, wkR, hw, k_meaning hT, iI_eq]
  unfold fbr
  by_cases a : mn n = -9
  · simp only [a, if_true]; rfl
  · by_cases b : fR n s = true
    · simp (disch := first | assumption | omega | exact isB_z | exact isB_o | exact iI_in' (by assumption) (by omega) (by omega) | exact cat_int _ | exact cat_ref _ | exact cat_null | decide) only [a, b, if_false, if_true, k_isRight hT h0 h1 hs, ↓x_25_0, ↓x_25_1, ↓x_25_4, ↓x_25_6, ↓x_25_9, ↓x_25_10, ↓x_25_11, ↓x_25_12, ↓x_25_13, ↓x_25_16, ↓x_25_19, ↓x_25_22, ↓x_25_23, ↓x_25_26, ↓x_25_27, up1_same, up1_ne, up1_up1, us_0, us_1, us_2, us_3, us_4, us_5, us_6, us_7, us_8, us_9, us_10, us_11, rw_zero, rw_succ, Option.toList_some, Option.toList_none, List.cons_append, List.nil_append, cat_int, cat_ref, cat_null, iI_add, iI_sub, iI_mul, iI_neg, List.length_cons, List.length_nil, ↓reduceIte, va_rf_some, wkW, wkR, hw, iI_eq]; simp
    · simp (disch := first | assumption | omega | exact isB_z | exact isB_o | exact iI_in' (by assumption) (by omega) (by omega) | exact cat_int _ | exact cat_ref _ | exact cat_null | decide) only [a, b, if_false, if_true, k_isRight hT h0 h1 hs, ↓x_25_0, ↓x_25_1, ↓x_25_4, ↓x_25_6, ↓x_25_9, ↓x_25_10, ↓x_25_11, ↓x_25_12, ↓x_25_13, ↓x_25_16, ↓x_25_19, ↓x_25_22, ↓x_25_23, ↓x_25_26, ↓x_25_27, up1_same, up1_ne, up1_up1, us_0, us_1, us_2, us_3, us_4, us_5, us_6, us_7, us_8, us_9, us_10, us_11, rw_zero, rw_succ, Option.toList_some, Option.toList_none, List.cons_append, List.nil_append, cat_int, cat_ref, cat_null, iI_add, iI_sub, iI_mul, iI_neg, List.length_cons, List.length_nil, ↓reduceIte, va_rf_some, wkW, wkR, hw, iI_eq]; simp
theorem sh_tab : ∀ j : Nat, j < 6 → ∀ n : Nat, n < 64 → (iI n >>> (iI j &&& 31)) &&& iI 1 = iI (n / 2 ^ j % 2) := by decide +kernel
theorem sh_6 {n j : Int} (h0 : 0 ≤ n) (h1 : n < 64) (j0 : 0 ≤ j) (j1 : j < 6) : (iI n >>> (iI j &&& 31)) &&& iI 1 = iI (n / 2 ^ j.toNat % 2) := by
  have := sh_tab j.toNat (by omega) n.toNat (by omega)
  rwa [Int.toNat_of_nonneg h0, Int.toNat_of_nonneg j0] at this
theorem or_48 (f : Nat) : iI (f : Int) ||| iI 4 = iI ((f ||| 4 : Nat) : Int) ∧ iI (f : Int) ||| iI 8 = iI ((f ||| 8 : Nat) : Int) := ⟨iI_or f 4, iI_or f 8⟩
theorem take_it {w f : Nat} {s n j m : Int} {W : wS} (hk : kd t w = 2) (hw : V w = wkW s W) (hW : wOK m W) (hm : m ≤ 99999) (h0 : 0 ≤ n) (h1 : n < 64) (j0 : 0 ≤ j) (j1 : j < 6) : Ev (d + 1) 24 8 [.ref w, .int (iI n), .int (iI f), .int (iI j)] [] (t, V, A, P) Q = Ev (d + 1) 24 8 [.ref w, .int (iI n), .int (iI ((f ||| bfl (wst W (n / 2 ^ j.toNat % 2)) : Nat) : Int)), .int (iI (j + -1))] [] (t, up1 V w (wkW s (wst W (n / 2 ^ j.toNat % 2))), A, P) Q := by
  have hx0 : 0 ≤ n / 2 ^ j.toNat % 2 ∧ n / 2 ^ j.toNat % 2 ≤ 1 := by omega
  rw [x_24_8]
  have e1 : ¬ j < 0 := by omega
  have e2 := sh_6 h0 h1 j0 j1
  generalize n / 2 ^ j.toNat % 2 = x at *
  have hW' := wst_OK hW hx0.1 hx0.2
  simp (disch := first | assumption | omega | exact isB_z | exact isB_o | exact iI_in' (by assumption) (by omega) (by omega) | exact cat_int _ | exact cat_ref _ | exact cat_null | decide) only [iI_lt, e1, if_false, ↓x_24_0, ↓x_24_1, ↓x_24_2, ↓x_24_5, ↓x_24_6, ↓x_24_7, ↓x_24_9, ↓x_24_12, ↓x_24_13, ↓x_24_14, ↓x_24_15, ↓x_24_16, ↓x_24_17, ↓x_24_18, ↓x_24_21, ↓x_24_22, ↓x_24_25, ↓x_24_27, ↓x_24_30, ↓x_24_31, ↓x_24_32, ↓x_24_33, ↓x_24_34, ↓x_24_35, ↓x_24_38, ↓x_24_39, ↓x_24_42, ↓x_24_43, ↓x_24_46, ↓x_24_48, ↓x_24_51, ↓x_24_52, ↓x_24_54, ↓x_24_55, ↓x_24_56, ↓x_24_59, ↓x_24_62, ↓x_24_63, ↓x_24_64, ↓x_24_65, ↓x_24_68, ↓x_24_71, ↓x_24_74, ↓x_24_75, up1_same, up1_ne, up1_up1, us_0, us_1, us_2, us_3, us_4, us_5, us_6, us_7, us_8, us_9, us_10, us_11, rw_zero, rw_succ, Option.toList_some, Option.toList_none, List.cons_append, List.nil_append, cat_int, cat_ref, cat_null, iI_add, iI_sub, iI_mul, iI_neg, List.length_cons, List.length_nil, ↓reduceIte, va_rf_some, wkW, wkR, e2]
  rw [k_step hk hw hW (by omega) hx0.1 hx0.2]
  generalize wst W x = W' at *
  obtain ⟨h, b, r, g⟩ := W'
  obtain ⟨q1, q2, q3, q4, q5, q6, q7, q8⟩ := hW'
  simp only at q1 q2 q3 q4 q5 q6 q7 q8
  simp (disch := first | assumption | omega | exact isB_z | exact isB_o | exact iI_in' (by assumption) (by omega) (by omega) | exact cat_int _ | exact cat_ref _ | exact cat_null | decide) only [↓x_24_0, ↓x_24_1, ↓x_24_2, ↓x_24_5, ↓x_24_6, ↓x_24_7, ↓x_24_9, ↓x_24_12, ↓x_24_13, ↓x_24_14, ↓x_24_15, ↓x_24_16, ↓x_24_17, ↓x_24_18, ↓x_24_21, ↓x_24_22, ↓x_24_25, ↓x_24_27, ↓x_24_30, ↓x_24_31, ↓x_24_32, ↓x_24_33, ↓x_24_34, ↓x_24_35, ↓x_24_38, ↓x_24_39, ↓x_24_42, ↓x_24_43, ↓x_24_46, ↓x_24_48, ↓x_24_51, ↓x_24_52, ↓x_24_54, ↓x_24_55, ↓x_24_56, ↓x_24_59, ↓x_24_62, ↓x_24_63, ↓x_24_64, ↓x_24_65, ↓x_24_68, ↓x_24_71, ↓x_24_74, ↓x_24_75, up1_same, up1_ne, up1_up1, us_0, us_1, us_2, us_3, us_4, us_5, us_6, us_7, us_8, us_9, us_10, us_11, rw_zero, rw_succ, Option.toList_some, Option.toList_none, List.cons_append, List.nil_append, cat_int, cat_ref, cat_null, iI_add, iI_sub, iI_mul, iI_neg, List.length_cons, List.length_nil, ↓reduceIte, va_rf_some, wkW, wkR, iI_lt, or_48]
  by_cases c1 : 6 < r <;> by_cases c2 : 3 < h <;> by_cases c3 : h < -3 <;> simp only [bfl, c1, c2, c3, if_true, if_false, or_true, true_or, or_false, or_self, Nat.or_assoc, Nat.or_zero] <;> first | rfl | omega
theorem take_end {w f : Nat} {s n j : Int} {W : wS} (hk : kd t w = 2) (hw : V w = wkW s W) (h0 : 0 ≤ n) (h1 : n < 64) (hj : j = -1) : Ev (d + 2) 24 8 [.ref w, .int (iI n), .int (iI f), .int (iI j)] [] (t, V, A, P) Q = Q (some (.int (iI f))) (t, up1 V w (wkW (sB n s) W), A, P) := by
  subst hj
  rw [x_24_8]
  simp (disch := first | assumption | omega | exact isB_z | exact isB_o | exact iI_in' (by assumption) (by omega) (by omega) | exact cat_int _ | exact cat_ref _ | exact cat_null | decide) only [iI_lt, show ((-1 : Int) < 0) from by omega, if_true, ↓x_24_0, ↓x_24_1, ↓x_24_2, ↓x_24_5, ↓x_24_6, ↓x_24_7, ↓x_24_9, ↓x_24_12, ↓x_24_13, ↓x_24_14, ↓x_24_15, ↓x_24_16, ↓x_24_17, ↓x_24_18, ↓x_24_21, ↓x_24_22, ↓x_24_25, ↓x_24_27, ↓x_24_30, ↓x_24_31, ↓x_24_32, ↓x_24_33, ↓x_24_34, ↓x_24_35, ↓x_24_38, ↓x_24_39, ↓x_24_42, ↓x_24_43, ↓x_24_46, ↓x_24_48, ↓x_24_51, ↓x_24_52, ↓x_24_54, ↓x_24_55, ↓x_24_56, ↓x_24_59, ↓x_24_62, ↓x_24_63, ↓x_24_64, ↓x_24_65, ↓x_24_68, ↓x_24_71, ↓x_24_74, ↓x_24_75, up1_same, up1_ne, up1_up1, us_0, us_1, us_2, us_3, us_4, us_5, us_6, us_7, us_8, us_9, us_10, us_11, rw_zero, rw_succ, Option.toList_some, Option.toList_none, List.cons_append, List.nil_append, cat_int, cat_ref, cat_null, iI_add, iI_sub, iI_mul, iI_neg, List.length_cons, List.length_nil, ↓reduceIte, va_rf_some, wkW, wkR, hw, k_sumBehind h0 h1]
theorem k_take {w : Nat} {s n m : Int} {W : wS} (hT : tabs t A) (hk : kd t w = 2) (hw : V w = wkW s W) (hW : wOK m W) (hm : m ≤ 99000) (hs : s = -1 ∨ s = 1) (h0 : 0 ≤ n) (h1 : n < 64) : Call (d + 6) 24 [.ref w, .int (iI n)] (t, V, A, P) Q = Q (some (.int (iI ((tkL W (fbr n s) (bt6 n)).2 : Nat)))) (t, up1 V w (wkW (sB n s) (tkL W (fbr n s) (bt6 n)).1), A, P) := by
  have hb : ∀ x : Int, 0 ≤ x % 2 ∧ x % 2 ≤ 1 := fun x => by omega
  have g1 := wst_OK hW (hb (n / 2 ^ (5 : Int).toNat)).1 (hb _).2
  have g2 := wst_OK g1 (hb (n / 2 ^ (5 + -1 : Int).toNat)).1 (hb _).2
  have g3 := wst_OK g2 (hb (n / 2 ^ (5 + -1 + -1 : Int).toNat)).1 (hb _).2
  have g4 := wst_OK g3 (hb (n / 2 ^ (5 + -1 + -1 + -1 : Int).toNat)).1 (hb _).2
  have g5 := wst_OK g4 (hb (n / 2 ^ (5 + -1 + -1 + -1 + -1 : Int).toNat)).1 (hb _).2
  simp (disch := first | assumption | omega | exact isB_z | exact isB_o | exact iI_in' (by assumption) (by omega) (by omega) | exact cat_int _ | exact cat_ref _ | exact cat_null | decide) only [c_24, ↓x_24_0, ↓x_24_1, ↓x_24_2, ↓x_24_5, ↓x_24_6, ↓x_24_7, ↓x_24_9, ↓x_24_12, ↓x_24_13, ↓x_24_14, ↓x_24_15, ↓x_24_16, ↓x_24_17, ↓x_24_18, ↓x_24_21, ↓x_24_22, ↓x_24_25, ↓x_24_27, ↓x_24_30, ↓x_24_31, ↓x_24_32, ↓x_24_33, ↓x_24_34, ↓x_24_35, ↓x_24_38, ↓x_24_39, ↓x_24_42, ↓x_24_43, ↓x_24_46, ↓x_24_48, ↓x_24_51, ↓x_24_52, ↓x_24_54, ↓x_24_55, ↓x_24_56, ↓x_24_59, ↓x_24_62, ↓x_24_63, ↓x_24_64, ↓x_24_65, ↓x_24_68, ↓x_24_71, ↓x_24_74, ↓x_24_75, up1_same, up1_ne, up1_up1, us_0, us_1, us_2, us_3, us_4, us_5, us_6, us_7, us_8, us_9, us_10, us_11, rw_zero, rw_succ, Option.toList_some, Option.toList_none, List.cons_append, List.nil_append, cat_int, cat_ref, cat_null, iI_add, iI_sub, iI_mul, iI_neg, List.length_cons, List.length_nil, ↓reduceIte, va_rf_some, wkW, wkR, k_formBreach hT hk hw hs h0 h1]
  rw [take_it hk hw hW (by omega) h0 h1 (by omega) (by omega)]
  rw [take_it hk (up1_same _ _ _) g1 (by omega) h0 h1 (by omega) (by omega), up1_up1]
  rw [take_it hk (up1_same _ _ _) g2 (by omega) h0 h1 (by omega) (by omega), up1_up1]
  rw [take_it hk (up1_same _ _ _) g3 (by omega) h0 h1 (by omega) (by omega), up1_up1]
  rw [take_it hk (up1_same _ _ _) g4 (by omega) h0 h1 (by omega) (by omega), up1_up1]
  rw [take_it hk (up1_same _ _ _) g5 (by omega) h0 h1 (by omega) (by omega), up1_up1]
  rw [take_end hk (up1_same _ _ _) h0 h1 (by omega), up1_up1]
  have e0 : n / 2 ^ (5 : Int).toNat = n / 32 := rfl
  have e1 : n / 2 ^ (5 + -1 : Int).toNat = n / 16 := rfl
  have e2 : n / 2 ^ (5 + -1 + -1 : Int).toNat = n / 8 := rfl
  have e3 : n / 2 ^ (5 + -1 + -1 + -1 : Int).toNat = n / 4 := rfl
  have e4 : n / 2 ^ (5 + -1 + -1 + -1 + -1 : Int).toNat = n / 2 := rfl
  have e5 : n / 2 ^ (5 + -1 + -1 + -1 + -1 + -1 : Int).toNat = n := by
    show n / 1 = n
    exact Int.ediv_one n
  rw [e0, e1, e2, e3, e4, e5]
  rfl
theorem tk_OK {n : Int} {f : Nat} {m : Int} {W : wS} (h : wOK m W) : wOK (m + 6) (tkL W f (bt6 n)).1 := by
  have hb : ∀ x : Int, 0 ≤ x % 2 ∧ x % 2 ≤ 1 := fun x => by omega
  have := wst_OK (wst_OK (wst_OK (wst_OK (wst_OK (wst_OK h (hb (n / 32)).1 (hb _).2) (hb (n / 16)).1 (hb _).2) (hb (n / 8)).1 (hb _).2) (hb (n / 4)).1 (hb _).2) (hb (n / 2)).1 (hb _).2) (hb n).1 (hb _).2
  rw [show m + 1 + 1 + 1 + 1 + 1 + 1 = m + 6 by omega] at this
  exact this
end
