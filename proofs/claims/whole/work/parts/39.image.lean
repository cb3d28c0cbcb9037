/-! THE MODEL: undo, keep, back -/
theorem i11 : ((0 : Int) = 1) = False := by simp
section
variable {d : Nat} {t : mL} {V : Nat → Nat → Value} {A : Nat → Nat → Int32} {P : Nat → Nat → Option Nat} {μ : mM} {Q : Option Value → mM → Prop} {S : aS} {g : Nat → Int}
theorem undo_copy (hK : mK t) {A0 : Nat → Nat → Int32} {u : Nat} (hu : u < 6) (h3 : g 3 = u) (hQ : ∀ (A' : Nat → Nat → Int32), (∀ v : Nat, v < 228 → A' 63 v = A0 64 (228 * u + v)) → (∀ a, a ≠ 63 → A' a = A0 a) → Q (some (.int (iI u))) (t, up1 V 62 (mdR g), A', P)) : ∀ (j n : Nat) (A : Nat → Nat → Int32), n + j = 228 → (∀ v : Nat, v < n → A 63 v = A0 64 (228 * u + v)) → (∀ a, a ≠ 63 → A a = A0 a) → Ev d 100 27 [.ref 62, .int (iI n)] [] (t, up1 V 62 (mdR g), A, P) Q := by
  obtain ⟨m0, ⟨m1, l1⟩, ⟨m2, l2⟩, ⟨m3, l3⟩, ⟨m4, l4⟩, ⟨m5, l5⟩, ⟨m6, l6⟩, ⟨m7, l7⟩, ⟨m8, l8⟩, ⟨m9, l9⟩, ⟨m10, l10⟩, ⟨m11, l11⟩, ⟨m12, l12⟩, ⟨m13, l13⟩, ⟨m14, l14⟩, m15, l15⟩ := hK
  intro j
  induction j with
  | zero =>
    intro n A hj hT hA
    have : n = 228 := by omega
    subst this
    rw [x_100_27]
    simp (disch := first | assumption | omega | exact isB_z | exact isB_o | exact iI_in' (by assumption) (by omega) (by omega) | exact cat_int _ | exact cat_ref _ | exact cat_null | decide) only [↓x_100_28, ↓x_100_31, up1_same, up1_ne, up1_up1, us_0, us_1, us_2, us_3, us_4, us_5, us_6, us_7, us_8, us_9, us_10, us_11, rw_zero, rw_succ, Option.toList_some, Option.toList_none, List.cons_append, List.nil_append, cat_int, cat_ref, cat_null, iI_add, iI_sub, iI_mul, iI_neg, List.length_cons, List.length_nil, ↓reduceIte, va_rf_some, Int.reduceToNat, md_0, md_1, md_2, md_3, md_4, md_5, md_6, md_7, md_8, md_9, md_10, md_11, md_12, md_13, md_14, md_15, md_16, md_17, md_18, md_19, md_20, md_21, md_22, md_23, md_24, md_25, md_26, md_27, md_28, md_29, md_30, md_31, mu_0, mu_3, mu_7, mu_9, mu_12, mu_13, mu_14, mu_15, mu_16, mu_17, mu_18, mu_23, mu_24, mu_26, mu_27, mu_28, mu_29, iI_lt]
    simp
    simp (disch := first | assumption | omega | exact isB_z | exact isB_o | exact iI_in' (by assumption) (by omega) (by omega) | exact cat_int _ | exact cat_ref _ | exact cat_null | decide) only [↓x_100_61, ↓x_100_62, ↓x_100_65, up1_same, up1_ne, up1_up1, us_0, us_1, us_2, us_3, us_4, us_5, us_6, us_7, us_8, us_9, us_10, us_11, rw_zero, rw_succ, Option.toList_some, Option.toList_none, List.cons_append, List.nil_append, cat_int, cat_ref, cat_null, iI_add, iI_sub, iI_mul, iI_neg, List.length_cons, List.length_nil, ↓reduceIte, va_rf_some, Int.reduceToNat, md_0, md_1, md_2, md_3, md_4, md_5, md_6, md_7, md_8, md_9, md_10, md_11, md_12, md_13, md_14, md_15, md_16, md_17, md_18, md_19, md_20, md_21, md_22, md_23, md_24, md_25, md_26, md_27, md_28, md_29, md_30, md_31, mu_0, mu_3, mu_7, mu_9, mu_12, mu_13, mu_14, mu_15, mu_16, mu_17, mu_18, mu_23, mu_24, mu_26, mu_27, mu_28, mu_29, h3]
    exact hQ A hT hA
  | succ j ih =>
    intro n A hj hT hA
    rw [x_100_27]
    have e : (n : Int) < 228 := by omega
    have tn1 : ((n : Nat) : Int).toNat = n := Int.toNat_natCast _
    have tn2 : (228 * (u : Int) + (n : Int)).toNat = 228 * u + n := by omega
    have ci : (n : Int) + 1 = ((n + 1 : Nat) : Int) := by omega
    have h64 := hA 64 (by omega)
    simp (disch := first | assumption | omega | exact isB_z | exact isB_o | exact iI_in' (by assumption) (by omega) (by omega) | exact cat_int _ | exact cat_ref _ | exact cat_null | decide) only [↓x_100_28, ↓x_100_31, ↓x_100_34, ↓x_100_35, ↓x_100_38, ↓x_100_39, ↓x_100_40, ↓x_100_43, ↓x_100_46, ↓x_100_47, ↓x_100_50, ↓x_100_51, ↓x_100_52, ↓x_100_53, ↓x_100_54, ↓x_100_55, ↓x_100_58, up1_same, up1_ne, up1_up1, us_0, us_1, us_2, us_3, us_4, us_5, us_6, us_7, us_8, us_9, us_10, us_11, rw_zero, rw_succ, Option.toList_some, Option.toList_none, List.cons_append, List.nil_append, cat_int, cat_ref, cat_null, iI_add, iI_sub, iI_mul, iI_neg, List.length_cons, List.length_nil, ↓reduceIte, va_rf_some, Int.reduceToNat, md_0, md_1, md_2, md_3, md_4, md_5, md_6, md_7, md_8, md_9, md_10, md_11, md_12, md_13, md_14, md_15, md_16, md_17, md_18, md_19, md_20, md_21, md_22, md_23, md_24, md_25, md_26, md_27, md_28, md_29, md_30, md_31, mu_0, mu_3, mu_7, mu_9, mu_12, mu_13, mu_14, mu_15, mu_16, mu_17, mu_18, mu_23, mu_24, mu_26, mu_27, mu_28, mu_29, iI_lt, e, if_true, iI_cl, h3, tn1, tn2, ci]
    refine ih (n + 1) _ (by omega) (fun v hv => ?_) (fun a h1 => by rw [up1_ne h1]; exact hA a h1)
    rw [up1_same]
    by_cases c : v = n
    · subst c; rw [upd_same, h64]
    · rw [upd_ne (by omega)]; exact hT v (by omega)
theorem km_undo (hK : mK t) (hS : wfS S) (h : RM g A S) (hQ : hqM t V A P Q (aUndo S)) : Call (d + 1) 100 [.ref 62] (t, up1 V 62 (mdR g), A, P) Q := by
  have hK' := hK
  obtain ⟨m0, ⟨m1, l1⟩, ⟨m2, l2⟩, ⟨m3, l3⟩, ⟨m4, l4⟩, ⟨m5, l5⟩, ⟨m6, l6⟩, ⟨m7, l7⟩, ⟨m8, l8⟩, ⟨m9, l9⟩, ⟨m10, l10⟩, ⟨m11, l11⟩, ⟨m12, l12⟩, ⟨m13, l13⟩, ⟨m14, l14⟩, m15, l15⟩ := hK
  have um := h.um
  have hul := hS.ul
  unfold aUndo at hQ
  by_cases c : S.U.length = 0
  · rw [if_pos c] at hQ
    have e : (S.U.length : Int) = 0 := by omega
    simp (disch := first | assumption | omega | exact isB_z | exact isB_o | exact iI_in' (by assumption) (by omega) (by omega) | exact cat_int _ | exact cat_ref _ | exact cat_null | decide) only [c_100, ↓x_100_0, ↓x_100_1, ↓x_100_2, ↓x_100_5, ↓x_100_6, ↓x_100_9, ↓x_100_12, ↓x_100_14, up1_same, up1_ne, up1_up1, us_0, us_1, us_2, us_3, us_4, us_5, us_6, us_7, us_8, us_9, us_10, us_11, rw_zero, rw_succ, Option.toList_some, Option.toList_none, List.cons_append, List.nil_append, cat_int, cat_ref, cat_null, iI_add, iI_sub, iI_mul, iI_neg, List.length_cons, List.length_nil, ↓reduceIte, va_rf_some, Int.reduceToNat, md_0, md_1, md_2, md_3, md_4, md_5, md_6, md_7, md_8, md_9, md_10, md_11, md_12, md_13, md_14, md_15, md_16, md_17, md_18, md_19, md_20, md_21, md_22, md_23, md_24, md_25, md_26, md_27, md_28, md_29, md_30, md_31, mu_0, mu_3, mu_7, mu_9, mu_12, mu_13, mu_14, mu_15, mu_16, mu_17, mu_18, mu_23, mu_24, mu_26, mu_27, mu_28, mu_29, i10, iI_eq, iI_lt, iI_cl, if_true, if_false, and_self, um, e]
    exact hQ _ A h.th (fun _ _ => rfl)
  · rw [if_neg c] at hQ
    have e : ¬ (S.U.length : Int) = 0 := by omega
    obtain ⟨n, hn⟩ : ∃ n, n = S.U.length - 1 := ⟨_, rfl⟩
    have ci : (S.U.length : Int) - 1 = (n : Int) := by omega
    rw [ci, ← hn] at hQ
    simp (disch := first | assumption | omega | exact isB_z | exact isB_o | exact iI_in' (by assumption) (by omega) (by omega) | exact cat_int _ | exact cat_ref _ | exact cat_null | decide) only [c_100, ↓x_100_0, ↓x_100_1, ↓x_100_2, ↓x_100_5, ↓x_100_6, ↓x_100_9, ↓x_100_12, ↓x_100_14, ↓x_100_15, ↓x_100_16, ↓x_100_17, ↓x_100_20, ↓x_100_21, ↓x_100_22, ↓x_100_25, ↓x_100_26, up1_same, up1_ne, up1_up1, us_0, us_1, us_2, us_3, us_4, us_5, us_6, us_7, us_8, us_9, us_10, us_11, rw_zero, rw_succ, Option.toList_some, Option.toList_none, List.cons_append, List.nil_append, cat_int, cat_ref, cat_null, iI_add, iI_sub, iI_mul, iI_neg, List.length_cons, List.length_nil, ↓reduceIte, va_rf_some, Int.reduceToNat, md_0, md_1, md_2, md_3, md_4, md_5, md_6, md_7, md_8, md_9, md_10, md_11, md_12, md_13, md_14, md_15, md_16, md_17, md_18, md_19, md_20, md_21, md_22, md_23, md_24, md_25, md_26, md_27, md_28, md_29, md_30, md_31, mu_0, mu_3, mu_7, mu_9, mu_12, mu_13, mu_14, mu_15, mu_16, mu_17, mu_18, mu_23, mu_24, mu_26, mu_27, mu_28, mu_29, i10, iI_eq, iI_lt, iI_cl, if_true, if_false, and_self, um, e, ci]
    refine undo_copy hK' (A0 := A) (u := n) (by omega) (up1_same _ _ _) (fun A1 q1 q2 => ?_) 228 0 A (by omega) (fun v hv => absurd hv (by omega)) (fun _ _ => rfl)
    have hl : (S.U.take n).length = n := by rw [List.length_take]; omega
    refine hQ _ A1 ⟨mH_eq (h.ew n (by omega)) (hS.uw n (by omega)) (fun k hk => q1 k hk), ?_, fun i hi => ?_, fun i hi => imM_eq (h.im i hi) (q2 65 (by omega)) (q2 66 (by omega)), (up1_ne (by omega)).trans ((up1_ne (by omega)).trans h.ty), fun i hi => by rw [q2 67 (by omega)]; exact h.tx i hi, ?_⟩ (fun a ha => q2 a (by omega))
    · rw [up1_same]; show _ = (((S.U.take n).length : Nat) : Int); rw [hl]
    · have hi' : i < (S.U.take n).length := hi
      show mH _ ((S.U.take n).getD i ([], []))
      rw [gtake (by omega), q2 64 (by omega)]
      exact h.ew i (by omega)
    · rw [up1_ne (by omega), up1_ne (by omega)]
      rcases h.la with q | ⟨q, r⟩
      · exact Or.inl q
      · exact Or.inr ⟨q, tabL_eq r (q2 69 (by omega)) (q2 70 (by omega))⟩
theorem keep_copy (hK : mK t) {A0 : Nat → Nat → Int32} {u : Nat} (hu : u < 2) (hQ : ∀ (A' : Nat → Nat → Int32), (∀ v : Nat, v < 228 → A' 65 (228 * u + v) = A0 63 v) → (∀ v : Nat, v < 228 * u ∨ 228 * u + 228 ≤ v → A' 65 v = A0 65 v) → (∀ a, a ≠ 65 → A' a = A0 a) → Ev d 123 49 [.ref 62, .int (iI u), .int (iI 228)] [] (t, up1 V 62 (mdR g), A', P) Q) : ∀ (j n : Nat) (A : Nat → Nat → Int32), n + j = 228 → (∀ v : Nat, v < n → A 65 (228 * u + v) = A0 63 v) → (∀ v : Nat, v < 228 * u ∨ 228 * u + 228 ≤ v → A 65 v = A0 65 v) → (∀ a, a ≠ 65 → A a = A0 a) → Ev d 123 18 [.ref 62, .int (iI u), .int (iI n)] [] (t, up1 V 62 (mdR g), A, P) Q := by
  obtain ⟨m0, ⟨m1, l1⟩, ⟨m2, l2⟩, ⟨m3, l3⟩, ⟨m4, l4⟩, ⟨m5, l5⟩, ⟨m6, l6⟩, ⟨m7, l7⟩, ⟨m8, l8⟩, ⟨m9, l9⟩, ⟨m10, l10⟩, ⟨m11, l11⟩, ⟨m12, l12⟩, ⟨m13, l13⟩, ⟨m14, l14⟩, m15, l15⟩ := hK
  intro j
  induction j with
  | zero =>
    intro n A hj hT hU hA
    have : n = 228 := by omega
    subst this
    rw [x_123_18]
    simp (disch := first | assumption | omega | exact isB_z | exact isB_o | exact iI_in' (by assumption) (by omega) (by omega) | exact cat_int _ | exact cat_ref _ | exact cat_null | decide) only [↓x_123_19, ↓x_123_22, up1_same, up1_ne, up1_up1, us_0, us_1, us_2, us_3, us_4, us_5, us_6, us_7, us_8, us_9, us_10, us_11, rw_zero, rw_succ, Option.toList_some, Option.toList_none, List.cons_append, List.nil_append, cat_int, cat_ref, cat_null, iI_add, iI_sub, iI_mul, iI_neg, List.length_cons, List.length_nil, ↓reduceIte, va_rf_some, Int.reduceToNat, md_0, md_1, md_2, md_3, md_4, md_5, md_6, md_7, md_8, md_9, md_10, md_11, md_12, md_13, md_14, md_15, md_16, md_17, md_18, md_19, md_20, md_21, md_22, md_23, md_24, md_25, md_26, md_27, md_28, md_29, md_30, md_31, mu_0, mu_3, mu_7, mu_9, mu_12, mu_13, mu_14, mu_15, mu_16, mu_17, mu_18, mu_23, mu_24, mu_26, mu_27, mu_28, mu_29, iI_lt]
    simp
    exact hQ A hT hU hA
  | succ j ih =>
    intro n A hj hT hU hA
    rw [x_123_18]
    have e : (n : Int) < 228 := by omega
    have tn1 : ((n : Nat) : Int).toNat = n := Int.toNat_natCast _
    have tn2 : (228 * (u : Int) + (n : Int)).toNat = 228 * u + n := by omega
    have ci : (n : Int) + 1 = ((n + 1 : Nat) : Int) := by omega
    have h63 := hA 63 (by omega)
    simp (disch := first | assumption | omega | exact isB_z | exact isB_o | exact iI_in' (by assumption) (by omega) (by omega) | exact cat_int _ | exact cat_ref _ | exact cat_null | decide) only [↓x_123_19, ↓x_123_22, ↓x_123_25, ↓x_123_26, ↓x_123_29, ↓x_123_32, ↓x_123_33, ↓x_123_34, ↓x_123_35, ↓x_123_36, ↓x_123_37, ↓x_123_40, ↓x_123_41, ↓x_123_42, ↓x_123_43, ↓x_123_46, up1_same, up1_ne, up1_up1, us_0, us_1, us_2, us_3, us_4, us_5, us_6, us_7, us_8, us_9, us_10, us_11, rw_zero, rw_succ, Option.toList_some, Option.toList_none, List.cons_append, List.nil_append, cat_int, cat_ref, cat_null, iI_add, iI_sub, iI_mul, iI_neg, List.length_cons, List.length_nil, ↓reduceIte, va_rf_some, Int.reduceToNat, md_0, md_1, md_2, md_3, md_4, md_5, md_6, md_7, md_8, md_9, md_10, md_11, md_12, md_13, md_14, md_15, md_16, md_17, md_18, md_19, md_20, md_21, md_22, md_23, md_24, md_25, md_26, md_27, md_28, md_29, md_30, md_31, mu_0, mu_3, mu_7, mu_9, mu_12, mu_13, mu_14, mu_15, mu_16, mu_17, mu_18, mu_23, mu_24, mu_26, mu_27, mu_28, mu_29, iI_lt, e, if_true, iI_cl, tn1, tn2, ci]
    refine ih (n + 1) _ (by omega) (fun v hv => ?_) (fun v hv => ?_) (fun a h1 => by rw [up1_ne h1]; exact hA a h1)
    · rw [up1_same]
      by_cases c : v = n
      · subst c; rw [upd_same, h63]
      · rw [upd_ne (by omega)]; exact hT v (by omega)
    · rw [up1_same, upd_ne (by omega)]; exact hU v hv
theorem km_keep {i : Int} (hK : mK t) (hS : wfS S) (h : RM g A S) (h1 : -2147483648 ≤ i ∧ i < 2147483648) (hQ : hqM t V A P Q (aKeep S i)) : Call (d + 2) 123 [.ref 62, .int (iI i)] (t, up1 V 62 (mdR g), A, P) Q := by
  have hK' := hK
  obtain ⟨m0, ⟨m1, l1⟩, ⟨m2, l2⟩, ⟨m3, l3⟩, ⟨m4, l4⟩, ⟨m5, l5⟩, ⟨m6, l6⟩, ⟨m7, l7⟩, ⟨m8, l8⟩, ⟨m9, l9⟩, ⟨m10, l10⟩, ⟨m11, l11⟩, ⟨m12, l12⟩, ⟨m13, l13⟩, ⟨m14, l14⟩, m15, l15⟩ := hK
  have a0 := h.wi.h0
  unfold aKeep at hQ
  by_cases c : 0 ≤ i ∧ i ≤ 1
  · rw [if_pos (by omega)] at hQ
    obtain ⟨n, rfl⟩ : ∃ n : Nat, i = n := ⟨i.toNat, by omega⟩
    have tn1 : ((n : Nat) : Int).toNat = n := Int.toNat_natCast _
    rw [tn1] at hQ
    simp (disch := first | assumption | omega | exact isB_z | exact isB_o | exact iI_in' (by assumption) (by omega) (by omega) | exact cat_int _ | exact cat_ref _ | exact cat_null | decide) only [c_123, ↓x_123_0, ↓x_123_1, ↓x_123_2, ↓x_123_5, ↓x_123_6, ↓x_123_7, ↓x_123_8, ↓x_123_11, ↓x_123_14, ↓x_123_15, ↓x_123_16, ↓x_123_17, up1_same, up1_ne, up1_up1, us_0, us_1, us_2, us_3, us_4, us_5, us_6, us_7, us_8, us_9, us_10, us_11, rw_zero, rw_succ, Option.toList_some, Option.toList_none, List.cons_append, List.nil_append, cat_int, cat_ref, cat_null, iI_add, iI_sub, iI_mul, iI_neg, List.length_cons, List.length_nil, ↓reduceIte, va_rf_some, Int.reduceToNat, md_0, md_1, md_2, md_3, md_4, md_5, md_6, md_7, md_8, md_9, md_10, md_11, md_12, md_13, md_14, md_15, md_16, md_17, md_18, md_19, md_20, md_21, md_22, md_23, md_24, md_25, md_26, md_27, md_28, md_29, md_30, md_31, mu_0, mu_3, mu_7, mu_9, mu_12, mu_13, mu_14, mu_15, mu_16, mu_17, mu_18, mu_23, mu_24, mu_26, mu_27, mu_28, mu_29, i10, iI_eq, iI_lt, iI_cl, if_true, if_false, and_self, k_in, c]
    refine keep_copy hK' (A0 := A) (u := n) (by omega) (fun A1 q1 q2 q3 => ?_) 228 0 A (by omega) (fun v hv => absurd hv (by omega)) (fun _ _ => rfl) (fun _ _ => rfl)
    have b0 : A1 63 0 = iI S.X.1.length := by rw [q3 63 (by omega)]; exact a0
    simp (disch := first | assumption | omega | exact isB_z | exact isB_o | exact iI_in' (by assumption) (by omega) (by omega) | exact cat_int _ | exact cat_ref _ | exact cat_null | decide) only [↓x_123_49, ↓x_123_50, ↓x_123_53, ↓x_123_54, ↓x_123_55, ↓x_123_56, ↓x_123_57, ↓x_123_60, ↓x_123_61, ↓x_123_62, up1_same, up1_ne, up1_up1, us_0, us_1, us_2, us_3, us_4, us_5, us_6, us_7, us_8, us_9, us_10, us_11, rw_zero, rw_succ, Option.toList_some, Option.toList_none, List.cons_append, List.nil_append, cat_int, cat_ref, cat_null, iI_add, iI_sub, iI_mul, iI_neg, List.length_cons, List.length_nil, ↓reduceIte, va_rf_some, Int.reduceToNat, md_0, md_1, md_2, md_3, md_4, md_5, md_6, md_7, md_8, md_9, md_10, md_11, md_12, md_13, md_14, md_15, md_16, md_17, md_18, md_19, md_20, md_21, md_22, md_23, md_24, md_25, md_26, md_27, md_28, md_29, md_30, md_31, mu_0, mu_3, mu_7, mu_9, mu_12, mu_13, mu_14, mu_15, mu_16, mu_17, mu_18, mu_23, mu_24, mu_26, mu_27, mu_28, mu_29, iI_cl, tn1, b0]
    refine hQ _ _ ⟨by rw [up1_ne (by omega), q3 63 (by omega)]; exact h.wi, (up1_ne (by omega)).trans h.um, fun j hj => by rw [up1_ne (by omega), q3 64 (by omega)]; exact h.ew j hj, fun j hj => ?_, (up1_ne (by omega)).trans h.ty, fun j hj => by rw [up1_ne (by omega), q3 67 (by omega)]; exact h.tx j hj, ?_⟩ (fun a ha => by rw [up1_ne (by omega)]; exact q3 a (by omega))
    · show imM _ j (if j = n then some S.X else S.I j)
      by_cases e : j = n
      · subst e
        rw [if_pos rfl]
        refine ⟨by rw [up1_same, upd_same], ?_⟩
        rw [up1_ne (by omega)]
        exact mH_eq h.wi hS.wo (fun k hk => q1 k hk)
      · rw [if_neg e]
        have := h.im j hj
        cases hY : S.I j with
        | none =>
          rw [hY] at this
          show up1 A1 66 (upd (A1 66) n (iI 1)) 66 j = iI 0
          rw [up1_same, upd_ne e, q3 66 (by omega)]
          exact this
        | some Y =>
          rw [hY] at this
          refine ⟨by rw [up1_same, upd_ne e, q3 66 (by omega)]; exact this.1, ?_⟩
          rw [up1_ne (by omega)]
          refine mH_eq this.2 (hS.iw j hj Y hY) (fun k hk => ?_)
          show A1 65 _ = A 65 _
          exact q2 _ (by omega)
    · rw [up1_ne (by omega)]
      rcases h.la with q | ⟨q, r⟩
      · exact Or.inl q
      · exact Or.inr ⟨q, tabL_eq r (by rw [up1_ne (by omega)]; exact q3 69 (by omega)) (by rw [up1_ne (by omega)]; exact q3 70 (by omega))⟩
  · rw [if_neg (by omega)] at hQ
    simp (disch := first | assumption | omega | exact isB_z | exact isB_o | exact iI_in' (by assumption) (by omega) (by omega) | exact cat_int _ | exact cat_ref _ | exact cat_null | decide) only [c_123, ↓x_123_0, ↓x_123_1, ↓x_123_2, ↓x_123_5, ↓x_123_6, ↓x_123_7, ↓x_123_8, ↓x_123_11, ↓x_123_14, ↓x_123_15, up1_same, up1_ne, up1_up1, us_0, us_1, us_2, us_3, us_4, us_5, us_6, us_7, us_8, us_9, us_10, us_11, rw_zero, rw_succ, Option.toList_some, Option.toList_none, List.cons_append, List.nil_append, cat_int, cat_ref, cat_null, iI_add, iI_sub, iI_mul, iI_neg, List.length_cons, List.length_nil, ↓reduceIte, va_rf_some, Int.reduceToNat, md_0, md_1, md_2, md_3, md_4, md_5, md_6, md_7, md_8, md_9, md_10, md_11, md_12, md_13, md_14, md_15, md_16, md_17, md_18, md_19, md_20, md_21, md_22, md_23, md_24, md_25, md_26, md_27, md_28, md_29, md_30, md_31, mu_0, mu_3, mu_7, mu_9, mu_12, mu_13, mu_14, mu_15, mu_16, mu_17, mu_18, mu_23, mu_24, mu_26, mu_27, mu_28, mu_29, i10, iI_eq, iI_lt, iI_cl, if_true, if_false, and_self, k_in, c]
    exact hQ _ A h.th (fun _ _ => rfl)
theorem back_copy (hK : mK t) {A0 : Nat → Nat → Int32} {u : Nat} (hu : u < 2) (hQ : ∀ (A' : Nat → Nat → Int32), (∀ v : Nat, v < 228 → A' 63 v = A0 65 (228 * u + v)) → (∀ a, a ≠ 63 → A' a = A0 a) → Ev d 124 61 [.ref 62, .int (iI u), .int (iI 228)] [] (t, up1 V 62 (mdR g), A', P) Q) : ∀ (j n : Nat) (A : Nat → Nat → Int32), n + j = 228 → (∀ v : Nat, v < n → A 63 v = A0 65 (228 * u + v)) → (∀ a, a ≠ 63 → A a = A0 a) → Ev d 124 30 [.ref 62, .int (iI u), .int (iI n)] [] (t, up1 V 62 (mdR g), A, P) Q := by
  obtain ⟨m0, ⟨m1, l1⟩, ⟨m2, l2⟩, ⟨m3, l3⟩, ⟨m4, l4⟩, ⟨m5, l5⟩, ⟨m6, l6⟩, ⟨m7, l7⟩, ⟨m8, l8⟩, ⟨m9, l9⟩, ⟨m10, l10⟩, ⟨m11, l11⟩, ⟨m12, l12⟩, ⟨m13, l13⟩, ⟨m14, l14⟩, m15, l15⟩ := hK
  intro j
  induction j with
  | zero =>
    intro n A hj hT hA
    have : n = 228 := by omega
    subst this
    rw [x_124_30]
    simp (disch := first | assumption | omega | exact isB_z | exact isB_o | exact iI_in' (by assumption) (by omega) (by omega) | exact cat_int _ | exact cat_ref _ | exact cat_null | decide) only [↓x_124_31, ↓x_124_34, up1_same, up1_ne, up1_up1, us_0, us_1, us_2, us_3, us_4, us_5, us_6, us_7, us_8, us_9, us_10, us_11, rw_zero, rw_succ, Option.toList_some, Option.toList_none, List.cons_append, List.nil_append, cat_int, cat_ref, cat_null, iI_add, iI_sub, iI_mul, iI_neg, List.length_cons, List.length_nil, ↓reduceIte, va_rf_some, Int.reduceToNat, md_0, md_1, md_2, md_3, md_4, md_5, md_6, md_7, md_8, md_9, md_10, md_11, md_12, md_13, md_14, md_15, md_16, md_17, md_18, md_19, md_20, md_21, md_22, md_23, md_24, md_25, md_26, md_27, md_28, md_29, md_30, md_31, mu_0, mu_3, mu_7, mu_9, mu_12, mu_13, mu_14, mu_15, mu_16, mu_17, mu_18, mu_23, mu_24, mu_26, mu_27, mu_28, mu_29, iI_lt]
    simp
    exact hQ A hT hA
  | succ j ih =>
    intro n A hj hT hA
    rw [x_124_30]
    have e : (n : Int) < 228 := by omega
    have tn1 : ((n : Nat) : Int).toNat = n := Int.toNat_natCast _
    have tn2 : (228 * (u : Int) + (n : Int)).toNat = 228 * u + n := by omega
    have ci : (n : Int) + 1 = ((n + 1 : Nat) : Int) := by omega
    have h65 := hA 65 (by omega)
    simp (disch := first | assumption | omega | exact isB_z | exact isB_o | exact iI_in' (by assumption) (by omega) (by omega) | exact cat_int _ | exact cat_ref _ | exact cat_null | decide) only [↓x_124_31, ↓x_124_34, ↓x_124_37, ↓x_124_38, ↓x_124_41, ↓x_124_42, ↓x_124_43, ↓x_124_46, ↓x_124_49, ↓x_124_50, ↓x_124_51, ↓x_124_52, ↓x_124_53, ↓x_124_54, ↓x_124_55, ↓x_124_58, up1_same, up1_ne, up1_up1, us_0, us_1, us_2, us_3, us_4, us_5, us_6, us_7, us_8, us_9, us_10, us_11, rw_zero, rw_succ, Option.toList_some, Option.toList_none, List.cons_append, List.nil_append, cat_int, cat_ref, cat_null, iI_add, iI_sub, iI_mul, iI_neg, List.length_cons, List.length_nil, ↓reduceIte, va_rf_some, Int.reduceToNat, md_0, md_1, md_2, md_3, md_4, md_5, md_6, md_7, md_8, md_9, md_10, md_11, md_12, md_13, md_14, md_15, md_16, md_17, md_18, md_19, md_20, md_21, md_22, md_23, md_24, md_25, md_26, md_27, md_28, md_29, md_30, md_31, mu_0, mu_3, mu_7, mu_9, mu_12, mu_13, mu_14, mu_15, mu_16, mu_17, mu_18, mu_23, mu_24, mu_26, mu_27, mu_28, mu_29, iI_lt, e, if_true, iI_cl, tn1, tn2, ci]
    refine ih (n + 1) _ (by omega) (fun v hv => ?_) (fun a h1 => by rw [up1_ne h1]; exact hA a h1)
    rw [up1_same]
    by_cases c : v = n
    · subst c; rw [upd_same, h65]
    · rw [upd_ne (by omega)]; exact hT v (by omega)
theorem km_back {i : Int} (hK : mK t) (hS : wfS S) (h : RM g A S) (h1 : -2147483648 ≤ i ∧ i < 2147483648) (hQ : hqM t V A P Q (aBack S i)) : Call (d + 2) 124 [.ref 62, .int (iI i)] (t, up1 V 62 (mdR g), A, P) Q := by
  have hK' := hK
  obtain ⟨m0, ⟨m1, l1⟩, ⟨m2, l2⟩, ⟨m3, l3⟩, ⟨m4, l4⟩, ⟨m5, l5⟩, ⟨m6, l6⟩, ⟨m7, l7⟩, ⟨m8, l8⟩, ⟨m9, l9⟩, ⟨m10, l10⟩, ⟨m11, l11⟩, ⟨m12, l12⟩, ⟨m13, l13⟩, ⟨m14, l14⟩, m15, l15⟩ := hK
  unfold aBack at hQ
  by_cases c : 0 ≤ i ∧ i ≤ 1
  · rw [if_pos (by omega)] at hQ
    obtain ⟨n, rfl⟩ : ∃ n : Nat, i = n := ⟨i.toNat, by omega⟩
    have tn1 : ((n : Nat) : Int).toNat = n := Int.toNat_natCast _
    rw [tn1] at hQ
    have hI := h.im n (by omega)
    cases hY : S.I n with
    | none =>
      rw [hY] at hI hQ
      have hI' : A 66 n = iI 0 := hI
      simp (disch := first | assumption | omega | exact isB_z | exact isB_o | exact iI_in' (by assumption) (by omega) (by omega) | exact cat_int _ | exact cat_ref _ | exact cat_null | decide) only [c_124, ↓x_124_0, ↓x_124_1, ↓x_124_2, ↓x_124_5, ↓x_124_6, ↓x_124_7, ↓x_124_8, ↓x_124_11, ↓x_124_14, ↓x_124_15, ↓x_124_16, ↓x_124_17, ↓x_124_20, ↓x_124_21, ↓x_124_22, ↓x_124_25, ↓x_124_27, up1_same, up1_ne, up1_up1, us_0, us_1, us_2, us_3, us_4, us_5, us_6, us_7, us_8, us_9, us_10, us_11, rw_zero, rw_succ, Option.toList_some, Option.toList_none, List.cons_append, List.nil_append, cat_int, cat_ref, cat_null, iI_add, iI_sub, iI_mul, iI_neg, List.length_cons, List.length_nil, ↓reduceIte, va_rf_some, Int.reduceToNat, md_0, md_1, md_2, md_3, md_4, md_5, md_6, md_7, md_8, md_9, md_10, md_11, md_12, md_13, md_14, md_15, md_16, md_17, md_18, md_19, md_20, md_21, md_22, md_23, md_24, md_25, md_26, md_27, md_28, md_29, md_30, md_31, mu_0, mu_3, mu_7, mu_9, mu_12, mu_13, mu_14, mu_15, mu_16, mu_17, mu_18, mu_23, mu_24, mu_26, mu_27, mu_28, mu_29, i10, iI_eq, iI_lt, iI_cl, if_true, if_false, and_self, k_in, c, tn1, hI']
      exact hQ _ A h.th (fun _ _ => rfl)
    | some Y =>
      rw [hY] at hI hQ
      obtain ⟨hI', hm⟩ : A 66 n = iI 1 ∧ mH (fun k => A 65 (228 * n + k)) Y := hI
      simp (disch := first | assumption | omega | exact isB_z | exact isB_o | exact iI_in' (by assumption) (by omega) (by omega) | exact cat_int _ | exact cat_ref _ | exact cat_null | decide) only [c_124, ↓x_124_0, ↓x_124_1, ↓x_124_2, ↓x_124_5, ↓x_124_6, ↓x_124_7, ↓x_124_8, ↓x_124_11, ↓x_124_14, ↓x_124_15, ↓x_124_16, ↓x_124_17, ↓x_124_20, ↓x_124_21, ↓x_124_22, ↓x_124_25, ↓x_124_27, ↓x_124_28, ↓x_124_29, up1_same, up1_ne, up1_up1, us_0, us_1, us_2, us_3, us_4, us_5, us_6, us_7, us_8, us_9, us_10, us_11, rw_zero, rw_succ, Option.toList_some, Option.toList_none, List.cons_append, List.nil_append, cat_int, cat_ref, cat_null, iI_add, iI_sub, iI_mul, iI_neg, List.length_cons, List.length_nil, ↓reduceIte, va_rf_some, Int.reduceToNat, md_0, md_1, md_2, md_3, md_4, md_5, md_6, md_7, md_8, md_9, md_10, md_11, md_12, md_13, md_14, md_15, md_16, md_17, md_18, md_19, md_20, md_21, md_22, md_23, md_24, md_25, md_26, md_27, md_28, md_29, md_30, md_31, mu_0, mu_3, mu_7, mu_9, mu_12, mu_13, mu_14, mu_15, mu_16, mu_17, mu_18, mu_23, mu_24, mu_26, mu_27, mu_28, mu_29, i10, iI_eq, iI_lt, iI_cl, if_true, if_false, and_self, k_in, c, tn1, hI']
      refine back_copy hK' (A0 := A) (u := n) (by omega) (fun A1 q1 q2 => ?_) 228 0 A (by omega) (fun v hv => absurd hv (by omega)) (fun _ _ => rfl)
      have hm' : mH (A1 63) Y := mH_eq hm (hS.iw n (by omega) Y hY) (fun k hk => q1 k hk)
      have b0 := hm'.h0
      simp (disch := first | assumption | omega | exact isB_z | exact isB_o | exact iI_in' (by assumption) (by omega) (by omega) | exact cat_int _ | exact cat_ref _ | exact cat_null | decide) only [↓x_124_61, ↓x_124_62, ↓x_124_63, ↓x_124_66, ↓x_124_67, ↓x_124_70, ↓x_124_71, ↓x_124_72, up1_same, up1_ne, up1_up1, us_0, us_1, us_2, us_3, us_4, us_5, us_6, us_7, us_8, us_9, us_10, us_11, rw_zero, rw_succ, Option.toList_some, Option.toList_none, List.cons_append, List.nil_append, cat_int, cat_ref, cat_null, iI_add, iI_sub, iI_mul, iI_neg, List.length_cons, List.length_nil, ↓reduceIte, va_rf_some, Int.reduceToNat, md_0, md_1, md_2, md_3, md_4, md_5, md_6, md_7, md_8, md_9, md_10, md_11, md_12, md_13, md_14, md_15, md_16, md_17, md_18, md_19, md_20, md_21, md_22, md_23, md_24, md_25, md_26, md_27, md_28, md_29, md_30, md_31, mu_0, mu_3, mu_7, mu_9, mu_12, mu_13, mu_14, mu_15, mu_16, mu_17, mu_18, mu_23, mu_24, mu_26, mu_27, mu_28, mu_29, iI_cl, b0]
      refine hQ _ A1 ⟨hm', up1_same _ _ _, fun j hj => absurd hj (Nat.not_lt_zero _), fun j hj => imM_eq (h.im j hj) (q2 65 (by omega)) (q2 66 (by omega)), (up1_ne (by omega)).trans ((up1_ne (by omega)).trans h.ty), fun j hj => by rw [q2 67 (by omega)]; exact h.tx j hj, ?_⟩ (fun a ha => q2 a (by omega))
      rw [up1_ne (by omega), up1_ne (by omega)]
      rcases h.la with q | ⟨q, r⟩
      · exact Or.inl q
      · exact Or.inr ⟨q, tabL_eq r (q2 69 (by omega)) (q2 70 (by omega))⟩
  · rw [if_neg (by omega)] at hQ
    simp (disch := first | assumption | omega | exact isB_z | exact isB_o | exact iI_in' (by assumption) (by omega) (by omega) | exact cat_int _ | exact cat_ref _ | exact cat_null | decide) only [c_124, ↓x_124_0, ↓x_124_1, ↓x_124_2, ↓x_124_5, ↓x_124_6, ↓x_124_7, ↓x_124_8, ↓x_124_11, ↓x_124_14, ↓x_124_15, up1_same, up1_ne, up1_up1, us_0, us_1, us_2, us_3, us_4, us_5, us_6, us_7, us_8, us_9, us_10, us_11, rw_zero, rw_succ, Option.toList_some, Option.toList_none, List.cons_append, List.nil_append, cat_int, cat_ref, cat_null, iI_add, iI_sub, iI_mul, iI_neg, List.length_cons, List.length_nil, ↓reduceIte, va_rf_some, Int.reduceToNat, md_0, md_1, md_2, md_3, md_4, md_5, md_6, md_7, md_8, md_9, md_10, md_11, md_12, md_13, md_14, md_15, md_16, md_17, md_18, md_19, md_20, md_21, md_22, md_23, md_24, md_25, md_26, md_27, md_28, md_29, md_30, md_31, mu_0, mu_3, mu_7, mu_9, mu_12, mu_13, mu_14, mu_15, mu_16, mu_17, mu_18, mu_23, mu_24, mu_26, mu_27, mu_28, mu_29, i10, iI_eq, iI_lt, iI_cl, if_true, if_false, and_self, k_in, c]
    exact hQ _ A h.th (fun _ _ => rfl)
end
