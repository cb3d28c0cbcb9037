/-! cell, low, tale -/
section
variable {d : Nat} {t : mL} {V : Nat → Nat → Value} {A : Nat → Nat → Int32} {P : Nat → Nat → Option Nat} {μ : mM} {Q : Option Value → mM → Prop} {S : aS} {xs : Nat → Int32}
theorem and_nn (v : Int32) : ∃ u : Int, 0 ≤ u ∧ u < 2147483648 ∧ v &&& iI 2147483647 = iI u := by
  have h : (v &&& iI 2147483647).toBitVec.msb = false := by
    show (v.toBitVec &&& (iI 2147483647).toBitVec).msb = false
    rw [BitVec.msb_and, show (iI 2147483647).toBitVec.msb = false from by decide +kernel, Bool.and_false]
  have h2 : 0 ≤ (v &&& iI 2147483647).toInt := by
    show 0 ≤ (v &&& iI 2147483647).toBitVec.toInt
    rw [BitVec.toInt_eq_toNat_of_msb h]
    omega
  exact ⟨_, h2, Int32.toInt_lt _, (iI_self _).symm⟩
theorem k_low {v : Int32} {n : Int} (h0 : 0 < n) (h1 : n < 2147483648) (hQ : ∀ z : Int, 0 ≤ z → z < n → Q (some (.int (iI z))) μ) : Call (d + 1) 77 [.int v, .int (iI n)] μ Q := by
  obtain ⟨u, u0, u1, hu⟩ := and_nn v
  have hn : ¬ iI n = 0 := iI_n0 h0 h1
  simp (disch := first | assumption | omega | exact isB_z | exact isB_o | exact iI_in' (by assumption) (by omega) (by omega) | exact cat_int _ | exact cat_ref _ | exact cat_null | decide) only [c_77, ↓x_77_0, ↓x_77_1, ↓x_77_3, ↓x_77_4, ↓x_77_5, ↓x_77_6, hu, iI_div u0 u1 h0 h1, iI_mul, iI_sub]
  have e : u - u / n * n = u % n := by rw [Int.emod_def, Int.mul_comm]
  rw [e]
  exact hQ _ (Int.emod_nonneg _ (by omega)) (Int.emod_lt_of_pos _ h0)
theorem k_cell {L k : Int} (hs : kd t 2 = 10 ∧ (ln t 2 : Int) = L) (hL : L ≤ 260) (h0 : 0 ≤ k) (h1 : k < 1000) (hQ : ∀ y : Int32, Q (some (.int y)) (t, V, A, P)) : Call (d + 1) 76 [.ref 2, .int (iI k)] (t, V, A, P) Q := by
  obtain ⟨s1, s2⟩ := hs
  have b0 : (0 : Int) ≤ (ln t 2 : Int) := Int.natCast_nonneg _
  simp (disch := first | assumption | omega | exact isB_z | exact isB_o | exact iI_in' (by assumption) (by omega) (by omega) | exact cat_int _ | exact cat_ref _ | exact cat_null | decide) only [c_76, ↓x_76_0, ↓x_76_1, ↓x_76_2, ↓x_76_3, ofNat_iI, iI_lt]
  by_cases c : k < (ln t 2 : Int)
  · have hin : inB (iI k) (ln t 2) = true := iI_in h0 c (by omega)
    simp (disch := first | assumption | omega | exact isB_z | exact isB_o | exact iI_in' (by assumption) (by omega) (by omega) | exact cat_int _ | exact cat_ref _ | exact cat_null | decide) only [c, if_true, ↓x_76_0, ↓x_76_1, ↓x_76_2, ↓x_76_3, ↓x_76_6, ↓x_76_7, ↓x_76_8, ↓x_76_9, ↓x_76_12, ↓x_76_15, ↓x_76_16, ↓x_76_17, ↓x_76_18, ↓x_76_19, ↓x_76_20, ↓x_76_22, ↓x_76_23, ↓x_76_24, iI_cl]
    exact hQ _
  · simp (disch := first | assumption | omega | exact isB_z | exact isB_o | exact iI_in' (by assumption) (by omega) (by omega) | exact cat_int _ | exact cat_ref _ | exact cat_null | decide) only [c, if_false, ↓x_76_0, ↓x_76_1, ↓x_76_2, ↓x_76_3, ↓x_76_6, ↓x_76_7, ↓x_76_8, ↓x_76_9, ↓x_76_12, ↓x_76_15, ↓x_76_16, ↓x_76_17, ↓x_76_18, ↓x_76_19, ↓x_76_20, ↓x_76_22, ↓x_76_23, ↓x_76_24]
    exact hQ _
/-- what a tale tells, one after another -/
def tlC (S : aS) : Nat → Int64
  | 0 => (iI (aCount S 0)).toInt64
  | k + 1 => Int64.ofInt 31 * tlC S k + (iI (aCount S ((k + 1 : Nat) : Int))).toInt64
def tlW (X : aW) (h : Int64) : Nat → Int64
  | 0 => h
  | w + 1 => Int64.ofInt 31 * tlW X h w + (iI (aWord X (w : Int))).toInt64
def tlB (X : aW) (h : Int64) : Nat → Int64
  | 0 => h
  | b + 1 => Int64.ofInt 31 * tlB X h b + (iI (aBit X (b : Int))).toInt64
def taF (S : aS) : Int64 := Int64.ofInt 31 * (Int64.ofInt 31 * tlB S.X (tlW S.X (tlC S 5) S.X.1.length) (S.X.1.length * 6) + (iI (aRecent S.X 0)).toInt64) + (iI (aRecent S.X 1)).toInt64
theorem aCount_X {S S' : aS} (h : S.X = S'.X) {w : Int} (h0 : 0 ≤ w) (h1 : w < 6) : aCount S w = aCount S' w := by
  unfold aCount
  rw [h]
  have hw : w = 0 ∨ w = 1 ∨ w = 2 ∨ w = 3 ∨ w = 4 ∨ w = 5 := by omega
  rcases hw with rfl | rfl | rfl | rfl | rfl | rfl <;> rfl
theorem tlC_X {S S' : aS} (h : S.X = S'.X) : ∀ k : Nat, k ≤ 5 → tlC S k = tlC S' k := by
  intro k
  induction k with
  | zero => intro _; show (iI (aCount S 0)).toInt64 = (iI (aCount S' 0)).toInt64; rw [aCount_X h (by omega) (by omega)]
  | succ k ih => intro hk; simp only [tlC]; rw [ih (by omega), aCount_X h (by omega) (by omega)]
theorem taF_X {S S' : aS} (h : S.X = S'.X) : taF S = taF S' := by
  unfold taF
  rw [tlC_X h 5 (by omega), h]
theorem aCount_0 (S : aS) : aCount S 0 = S.X.1.length := rfl
/-- the answers' form of a call -/
def hqL (xs : Nat → Int32) (t : mL) (Q : Option Value → mM → Prop) (w : Int64) (S : aS) : Prop := ∀ (V' : Nat → Nat → Value) (A' : Nat → Nat → Int32) (P' : Nat → Nat → Option Nat), lwJ xs t V' A' P' S → Q (some (.long w)) (t, V', A', P')
theorem tale_c (hK : exK t) {h0 : Int64} (hQ : ∀ (V : Nat → Nat → Value) (A : Nat → Nat → Int32) (P : Nat → Nat → Option Nat), lwJ xs t V A P S → Ev (d + 20) 78 34 [.ref 3, .long (tlC S 5), .null, .int (iI 6)] [] (t, V, A, P) Q) : ∀ (n k : Nat) (V : Nat → Nat → Value) (A : Nat → Nat → Int32) (P : Nat → Nat → Option Nat), k + n = 5 → lwJ xs t V A P S → Ev (d + 20) 78 9 [.ref 3, .long (tlC S k), .null, .int (iI ((k : Int) + 1))] [] (t, V, A, P) Q := by
  have k0 := hK.1
  intro n
  induction n with
  | zero =>
    intro k V A P hk hJ
    have e : k = 5 := by omega
    subst e
    rw [x_78_9]
    simp (disch := first | assumption | omega | exact isB_z | exact isB_o | exact iI_in' (by assumption) (by omega) (by omega) | exact cat_int _ | exact cat_ref _ | exact cat_null | decide) only [↓x_78_10, ↓x_78_12, iI_lt]
    exact hQ V A P hJ
  | succ n ih =>
    intro k V A P hk hJ
    have c : (k : Int) + 1 < 6 := by omega
    rw [x_78_9]
    simp (disch := first | assumption | omega | exact isB_z | exact isB_o | exact iI_in' (by assumption) (by omega) (by omega) | exact cat_int _ | exact cat_ref _ | exact cat_null | decide) only [↓x_78_10, ↓x_78_12, ↓x_78_15, ↓x_78_18, ↓x_78_19, ↓x_78_20, ↓x_78_21, ↓x_78_22, iI_lt, c, if_true]
    refine kJ_count hK hJ (by omega) (fun V A P hJ => ?_)
    simp (disch := first | assumption | omega | exact isB_z | exact isB_o | exact iI_in' (by assumption) (by omega) (by omega) | exact cat_int _ | exact cat_ref _ | exact cat_null | decide) only [↓x_78_25, ↓x_78_26, ↓x_78_27, ↓x_78_28, ↓x_78_31, up1_same, up1_ne, up1_up1, us_0, us_1, us_2, us_3, us_4, us_5, us_6, us_7, us_8, us_9, us_10, us_11, rw_zero, rw_succ, Option.toList_some, Option.toList_none, List.cons_append, List.nil_append, cat_int, cat_ref, cat_null, iI_add, iI_sub, iI_mul, iI_neg, List.length_cons, List.length_nil, ↓reduceIte, va_rf_some]
    exact ih (k + 1) V A P (by omega) hJ
theorem tale_w (hK : exK t) {h0 : Int64} (hQ : ∀ (V : Nat → Nat → Value) (A : Nat → Nat → Int32) (P : Nat → Nat → Option Nat), lwJ xs t V A P S → Ev (d + 20) 78 64 [.ref 3, .long (tlW S.X h0 S.X.1.length), .null, .int (iI S.X.1.length)] [] (t, V, A, P) Q) : ∀ (n w : Nat) (V : Nat → Nat → Value) (A : Nat → Nat → Int32) (P : Nat → Nat → Option Nat), w + n = S.X.1.length → lwJ xs t V A P S → Ev (d + 20) 78 36 [.ref 3, .long (tlW S.X h0 w), .null, .int (iI (w : Int))] [] (t, V, A, P) Q := by
  have k0 := hK.1
  intro n
  induction n with
  | zero =>
    intro w V A P hw hJ
    have h32 := hJ.wo.1.1
    have c : ¬ (w : Int) < (S.X.1.length : Int) := by omega
    rw [x_78_36]
    simp (disch := first | assumption | omega | exact isB_z | exact isB_o | exact iI_in' (by assumption) (by omega) (by omega) | exact cat_int _ | exact cat_ref _ | exact cat_null | decide) only [↓x_78_37, ↓x_78_38, ↓x_78_39]
    refine kJ_count hK hJ (by omega) (fun V A P hJ => ?_)
    simp (disch := first | assumption | omega | exact isB_z | exact isB_o | exact iI_in' (by assumption) (by omega) (by omega) | exact cat_int _ | exact cat_ref _ | exact cat_null | decide) only [↓x_78_42, up1_same, up1_ne, up1_up1, us_0, us_1, us_2, us_3, us_4, us_5, us_6, us_7, us_8, us_9, us_10, us_11, rw_zero, rw_succ, Option.toList_some, Option.toList_none, List.cons_append, List.nil_append, cat_int, cat_ref, cat_null, iI_add, iI_sub, iI_mul, iI_neg, List.length_cons, List.length_nil, ↓reduceIte, va_rf_some, aCount_0, iI_lt, c]
    have e : w = S.X.1.length := by omega
    subst e
    exact hQ V A P hJ
  | succ n ih =>
    intro w V A P hw hJ
    have h32 := hJ.wo.1.1
    have c : (w : Int) < (S.X.1.length : Int) := by omega
    have ci : (w : Int) + 1 = ((w + 1 : Nat) : Int) := by omega
    rw [x_78_36]
    simp (disch := first | assumption | omega | exact isB_z | exact isB_o | exact iI_in' (by assumption) (by omega) (by omega) | exact cat_int _ | exact cat_ref _ | exact cat_null | decide) only [↓x_78_37, ↓x_78_38, ↓x_78_39]
    refine kJ_count hK hJ (by omega) (fun V A P hJ => ?_)
    simp (disch := first | assumption | omega | exact isB_z | exact isB_o | exact iI_in' (by assumption) (by omega) (by omega) | exact cat_int _ | exact cat_ref _ | exact cat_null | decide) only [↓x_78_42, ↓x_78_45, ↓x_78_48, ↓x_78_49, ↓x_78_50, ↓x_78_51, ↓x_78_52, up1_same, up1_ne, up1_up1, us_0, us_1, us_2, us_3, us_4, us_5, us_6, us_7, us_8, us_9, us_10, us_11, rw_zero, rw_succ, Option.toList_some, Option.toList_none, List.cons_append, List.nil_append, cat_int, cat_ref, cat_null, iI_add, iI_sub, iI_mul, iI_neg, List.length_cons, List.length_nil, ↓reduceIte, va_rf_some, aCount_0, iI_lt, c]
    refine kJ_word hK hJ (by omega) (fun V A P hJ => ?_)
    simp (disch := first | assumption | omega | exact isB_z | exact isB_o | exact iI_in' (by assumption) (by omega) (by omega) | exact cat_int _ | exact cat_ref _ | exact cat_null | decide) only [↓x_78_55, ↓x_78_56, ↓x_78_57, ↓x_78_58, ↓x_78_61, up1_same, up1_ne, up1_up1, us_0, us_1, us_2, us_3, us_4, us_5, us_6, us_7, us_8, us_9, us_10, us_11, rw_zero, rw_succ, Option.toList_some, Option.toList_none, List.cons_append, List.nil_append, cat_int, cat_ref, cat_null, iI_add, iI_sub, iI_mul, iI_neg, List.length_cons, List.length_nil, ↓reduceIte, va_rf_some, ci]
    exact ih (w + 1) V A P (by omega) hJ
theorem tale_b (hK : exK t) {h0 : Int64} (hQ : ∀ (V : Nat → Nat → Value) (A : Nat → Nat → Int32) (P : Nat → Nat → Option Nat), lwJ xs t V A P S → Ev (d + 20) 78 97 [.ref 3, .long (tlB S.X h0 (S.X.1.length * 6)), .null, .int (iI (S.X.1.length * 6 : Nat))] [] (t, V, A, P) Q) : ∀ (n b : Nat) (V : Nat → Nat → Value) (A : Nat → Nat → Int32) (P : Nat → Nat → Option Nat), b + n = S.X.1.length * 6 → lwJ xs t V A P S → Ev (d + 20) 78 66 [.ref 3, .long (tlB S.X h0 b), .null, .int (iI (b : Int))] [] (t, V, A, P) Q := by
  have k0 := hK.1
  intro n
  induction n with
  | zero =>
    intro b V A P hw hJ
    have h32 := hJ.wo.1.1
    have c : ¬ (b : Int) < 6 * (S.X.1.length : Int) := by omega
    rw [x_78_66]
    simp (disch := first | assumption | omega | exact isB_z | exact isB_o | exact iI_in' (by assumption) (by omega) (by omega) | exact cat_int _ | exact cat_ref _ | exact cat_null | decide) only [↓x_78_67, ↓x_78_69, ↓x_78_70, ↓x_78_71]
    refine kJ_count hK hJ (by omega) (fun V A P hJ => ?_)
    simp (disch := first | assumption | omega | exact isB_z | exact isB_o | exact iI_in' (by assumption) (by omega) (by omega) | exact cat_int _ | exact cat_ref _ | exact cat_null | decide) only [↓x_78_74, ↓x_78_75, up1_same, up1_ne, up1_up1, us_0, us_1, us_2, us_3, us_4, us_5, us_6, us_7, us_8, us_9, us_10, us_11, rw_zero, rw_succ, Option.toList_some, Option.toList_none, List.cons_append, List.nil_append, cat_int, cat_ref, cat_null, iI_add, iI_sub, iI_mul, iI_neg, List.length_cons, List.length_nil, ↓reduceIte, va_rf_some, aCount_0, iI_lt, c]
    have e : b = S.X.1.length * 6 := by omega
    subst e
    exact hQ V A P hJ
  | succ n ih =>
    intro b V A P hw hJ
    have h32 := hJ.wo.1.1
    have c : (b : Int) < 6 * (S.X.1.length : Int) := by omega
    have ci : (b : Int) + 1 = ((b + 1 : Nat) : Int) := by omega
    rw [x_78_66]
    simp (disch := first | assumption | omega | exact isB_z | exact isB_o | exact iI_in' (by assumption) (by omega) (by omega) | exact cat_int _ | exact cat_ref _ | exact cat_null | decide) only [↓x_78_67, ↓x_78_69, ↓x_78_70, ↓x_78_71]
    refine kJ_count hK hJ (by omega) (fun V A P hJ => ?_)
    simp (disch := first | assumption | omega | exact isB_z | exact isB_o | exact iI_in' (by assumption) (by omega) (by omega) | exact cat_int _ | exact cat_ref _ | exact cat_null | decide) only [↓x_78_74, ↓x_78_75, ↓x_78_78, ↓x_78_81, ↓x_78_82, ↓x_78_83, ↓x_78_84, ↓x_78_85, up1_same, up1_ne, up1_up1, us_0, us_1, us_2, us_3, us_4, us_5, us_6, us_7, us_8, us_9, us_10, us_11, rw_zero, rw_succ, Option.toList_some, Option.toList_none, List.cons_append, List.nil_append, cat_int, cat_ref, cat_null, iI_add, iI_sub, iI_mul, iI_neg, List.length_cons, List.length_nil, ↓reduceIte, va_rf_some, aCount_0, iI_lt, c]
    refine kJ_bit hK hJ (by omega) (fun V A P hJ => ?_)
    simp (disch := first | assumption | omega | exact isB_z | exact isB_o | exact iI_in' (by assumption) (by omega) (by omega) | exact cat_int _ | exact cat_ref _ | exact cat_null | decide) only [↓x_78_88, ↓x_78_89, ↓x_78_90, ↓x_78_91, ↓x_78_94, up1_same, up1_ne, up1_up1, us_0, us_1, us_2, us_3, us_4, us_5, us_6, us_7, us_8, us_9, us_10, us_11, rw_zero, rw_succ, Option.toList_some, Option.toList_none, List.cons_append, List.nil_append, cat_int, cat_ref, cat_null, iI_add, iI_sub, iI_mul, iI_neg, List.length_cons, List.length_nil, ↓reduceIte, va_rf_some, ci]
    exact ih (b + 1) V A P (by omega) hJ
theorem k_tale (hK : exK t) (hJ : lwJ xs t V A P S) (hQ : hqL xs t Q (taF S) S) : Call (d + 21) 78 [.ref 3] (t, V, A, P) Q := by
  have k0 := hK.1
  simp (disch := first | assumption | omega | exact isB_z | exact isB_o | exact iI_in' (by assumption) (by omega) (by omega) | exact cat_int _ | exact cat_ref _ | exact cat_null | decide) only [c_78, ↓x_78_0, ↓x_78_1, ↓x_78_2]
  refine kJ_count hK hJ (by omega) (fun V A P hJ => ?_)
  simp (disch := first | assumption | omega | exact isB_z | exact isB_o | exact iI_in' (by assumption) (by omega) (by omega) | exact cat_int _ | exact cat_ref _ | exact cat_null | decide) only [↓x_78_5, ↓x_78_6, ↓x_78_7, ↓x_78_8, up1_same, up1_ne, up1_up1, us_0, us_1, us_2, us_3, us_4, us_5, us_6, us_7, us_8, us_9, us_10, us_11, rw_zero, rw_succ, Option.toList_some, Option.toList_none, List.cons_append, List.nil_append, cat_int, cat_ref, cat_null, iI_add, iI_sub, iI_mul, iI_neg, List.length_cons, List.length_nil, ↓reduceIte, va_rf_some]
  refine tale_c (S := S) (d := d) hK (h0 := 0) (fun V A P hJ => ?_) 5 0 V A P (by omega) hJ
  simp (disch := first | assumption | omega | exact isB_z | exact isB_o | exact iI_in' (by assumption) (by omega) (by omega) | exact cat_int _ | exact cat_ref _ | exact cat_null | decide) only [↓x_78_34, ↓x_78_35]
  refine tale_w (S := S) (d := d) hK (h0 := tlC S 5) (fun V A P hJ => ?_) S.X.1.length 0 V A P (by omega) hJ
  simp (disch := first | assumption | omega | exact isB_z | exact isB_o | exact iI_in' (by assumption) (by omega) (by omega) | exact cat_int _ | exact cat_ref _ | exact cat_null | decide) only [↓x_78_64, ↓x_78_65]
  refine tale_b (S := S) (d := d) hK (h0 := tlW S.X (tlC S 5) S.X.1.length) (fun V A P hJ => ?_) (S.X.1.length * 6) 0 V A P (by omega) hJ
  simp (disch := first | assumption | omega | exact isB_z | exact isB_o | exact iI_in' (by assumption) (by omega) (by omega) | exact cat_int _ | exact cat_ref _ | exact cat_null | decide) only [↓x_78_97, ↓x_78_100, ↓x_78_103, ↓x_78_104, ↓x_78_105, ↓x_78_106, ↓x_78_107]
  refine kJ_recent hK hJ (by omega) (fun V A P hJ => ?_)
  simp (disch := first | assumption | omega | exact isB_z | exact isB_o | exact iI_in' (by assumption) (by omega) (by omega) | exact cat_int _ | exact cat_ref _ | exact cat_null | decide) only [↓x_78_110, ↓x_78_111, ↓x_78_112, ↓x_78_113, ↓x_78_114, ↓x_78_115, up1_same, up1_ne, up1_up1, us_0, us_1, us_2, us_3, us_4, us_5, us_6, us_7, us_8, us_9, us_10, us_11, rw_zero, rw_succ, Option.toList_some, Option.toList_none, List.cons_append, List.nil_append, cat_int, cat_ref, cat_null, iI_add, iI_sub, iI_mul, iI_neg, List.length_cons, List.length_nil, ↓reduceIte, va_rf_some]
  refine kJ_recent hK hJ (by omega) (fun V A P hJ => ?_)
  simp (disch := first | assumption | omega | exact isB_z | exact isB_o | exact iI_in' (by assumption) (by omega) (by omega) | exact cat_int _ | exact cat_ref _ | exact cat_null | decide) only [↓x_78_118, ↓x_78_119, ↓x_78_120, up1_same, up1_ne, up1_up1, us_0, us_1, us_2, us_3, us_4, us_5, us_6, us_7, us_8, us_9, us_10, us_11, rw_zero, rw_succ, Option.toList_some, Option.toList_none, List.cons_append, List.nil_append, cat_int, cat_ref, cat_null, iI_add, iI_sub, iI_mul, iI_neg, List.length_cons, List.length_nil, ↓reduceIte, va_rf_some]
  exact hQ V A P hJ
end
