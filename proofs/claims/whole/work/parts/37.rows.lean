/-! THE MODEL: rows copied, words sent -/
theorem mH_eq {f f' : Nat → Int32} {X : aW} (h : mH f X) (hX : wf X) (he : ∀ k, k < 228 → f' k = f k) : mH f' X := by
  have := hX.1
  exact ⟨by rw [he 0 (by omega)]; exact h.h0, by rw [he 1 (by omega)]; exact h.h1, by rw [he 2 (by omega)]; exact h.h2, by rw [he 3 (by omega)]; exact h.h3, fun i hi => by rw [he _ (by omega)]; exact h.h4 i hi, fun i hi => by rw [he _ (by omega)]; exact h.h5 i hi⟩
theorem mH_nil {f : Nat → Int32} (h0 : f 0 = iI 0) (h1 : f 1 = iI (-1)) (h2 : f 2 = iI (-9)) (h3 : f 3 = iI (-9)) : mH f ([], []) := ⟨h0, h1, h2, h3, fun i hi => absurd hi (Nat.not_lt_zero _), fun i hi => absurd hi (Nat.not_lt_zero _)⟩
theorem RM.th {g : Nat → Int} {A : Nat → Nat → Int32} {S : aS} (h : RM g A S) : RM (up1 g 0 0) A S := h.keep' (up1_ne (by omega)) (up1_ne (by omega)) (up1_ne (by omega)) (fun _ _ _ _ => rfl)
theorem btA_app_lt {l : List Int} {v : Int} {b : Nat} (h : b < 6 * l.length) : btA (l ++ [v]) b = btA l b := by
  unfold btA
  rw [getD_app_lt (by omega)]
theorem btA_app_eq {l : List Int} {v : Int} {b : Nat} (h : b < 6) : btA (l ++ [v]) ((6 * l.length + b : Nat) : Int) = v / 2 ^ (5 - b) % 2 := by
  unfold btA
  have e1 : (((6 * l.length + b : Nat) : Int) / 6).toNat = l.length := by omega
  have e2 : (5 - ((6 * l.length + b : Nat) : Int) % 6).toNat = 5 - b := by omega
  rw [e1, e2, getD_app_eq]
theorem sB_tab : ∀ k : Nat, k < 34 → ((if pcI (fA k) = 3 then (-1 : Int) else 1) = sB (fA k) (-1)) ∧ ((if pcI (fB k) = 3 then (1 : Int) else -1) = sB (fB k) 1) := by decide +kernel
/-- SUM behind a word in the form due -/
theorem sB_D {k s : Int} (h0 : 0 ≤ k) (h1 : k < 34) (hs : s = -1 ∨ s = 1) : (if pcI (fD k s) = 3 then s else -s) = sB (fD k s) s := by
  have := bdd (P := fun k => ((if pcI (fA k) = 3 then (-1 : Int) else 1) = sB (fA k) (-1)) ∧ ((if pcI (fB k) = 3 then (1 : Int) else -1) = sB (fB k) 1)) sB_tab h0 h1
  rcases hs with rfl | rfl
  · exact this.1
  · exact this.2
section
variable {d : Nat} {t : mL} {V : Nat → Nat → Value} {A : Nat → Nat → Int32} {P : Nat → Nat → Option Nat} {μ : mM} {Q : Option Value → mM → Prop} {S : aS} {g : Nat → Int} {X : aW}
theorem bares_loop (hK : mK t) {A0 : Nat → Nat → Int32} (hQ : ∀ (A' : Nat → Nat → Int32), (∀ v : Nat, v < 228 → A' 63 v = iI 0) → (∀ a, a ≠ 63 → A' a = A0 a) → Ev d 78 22 [.ref 62, .int (iI 228)] [] (t, up1 V 62 (mdR g), A', P) Q) : ∀ (j n : Nat) (A : Nat → Nat → Int32), n + j = 228 → (∀ v : Nat, v < n → A 63 v = iI 0) → (∀ a, a ≠ 63 → A a = A0 a) → Ev d 78 2 [.ref 62, .int (iI n)] [] (t, up1 V 62 (mdR g), A, P) Q := by
  obtain ⟨m0, ⟨m1, l1⟩, ⟨m2, l2⟩, ⟨m3, l3⟩, ⟨m4, l4⟩, ⟨m5, l5⟩, ⟨m6, l6⟩, ⟨m7, l7⟩, ⟨m8, l8⟩, ⟨m9, l9⟩, ⟨m10, l10⟩, ⟨m11, l11⟩, ⟨m12, l12⟩, ⟨m13, l13⟩, ⟨m14, l14⟩, m15, l15⟩ := hK
  intro j
  induction j with
  | zero =>
    intro n A hj hT hA
    have : n = 228 := by omega
    subst this
    rw [x_78_2]
    simp (disch := first | assumption | omega | exact isB_z | exact isB_o | exact iI_in' (by assumption) (by omega) (by omega) | exact cat_int _ | exact cat_ref _ | exact cat_null | decide) only [↓x_78_3, ↓x_78_6, up1_same, up1_ne, up1_up1, us_0, us_1, us_2, us_3, us_4, us_5, us_6, us_7, us_8, us_9, us_10, us_11, rw_zero, rw_succ, Option.toList_some, Option.toList_none, List.cons_append, List.nil_append, cat_int, cat_ref, cat_null, iI_add, iI_sub, iI_mul, iI_neg, List.length_cons, List.length_nil, ↓reduceIte, va_rf_some, Int.reduceToNat, md_0, md_1, md_2, md_3, md_4, md_5, md_6, md_7, md_8, md_9, md_10, md_11, md_12, md_13, md_14, md_15, md_16, md_17, md_18, md_19, md_20, md_21, md_22, md_23, md_24, md_25, md_26, md_27, md_28, md_29, md_30, md_31, mu_0, mu_3, mu_7, mu_9, mu_12, mu_13, mu_14, mu_15, mu_16, mu_17, mu_18, mu_23, mu_24, mu_26, mu_27, mu_28, mu_29, iI_lt]
    simp
    exact hQ A hT hA
  | succ j ih =>
    intro n A hj hT hA
    rw [x_78_2]
    have e : (n : Int) < 228 := by omega
    have tn1 : ((n : Nat) : Int).toNat = n := Int.toNat_natCast _
    have ci : (n : Int) + 1 = ((n + 1 : Nat) : Int) := by omega
    simp (disch := first | assumption | omega | exact isB_z | exact isB_o | exact iI_in' (by assumption) (by omega) (by omega) | exact cat_int _ | exact cat_ref _ | exact cat_null | decide) only [↓x_78_3, ↓x_78_6, ↓x_78_9, ↓x_78_10, ↓x_78_13, ↓x_78_14, ↓x_78_15, ↓x_78_16, ↓x_78_19, up1_same, up1_ne, up1_up1, us_0, us_1, us_2, us_3, us_4, us_5, us_6, us_7, us_8, us_9, us_10, us_11, rw_zero, rw_succ, Option.toList_some, Option.toList_none, List.cons_append, List.nil_append, cat_int, cat_ref, cat_null, iI_add, iI_sub, iI_mul, iI_neg, List.length_cons, List.length_nil, ↓reduceIte, va_rf_some, Int.reduceToNat, md_0, md_1, md_2, md_3, md_4, md_5, md_6, md_7, md_8, md_9, md_10, md_11, md_12, md_13, md_14, md_15, md_16, md_17, md_18, md_19, md_20, md_21, md_22, md_23, md_24, md_25, md_26, md_27, md_28, md_29, md_30, md_31, mu_0, mu_3, mu_7, mu_9, mu_12, mu_13, mu_14, mu_15, mu_16, mu_17, mu_18, mu_23, mu_24, mu_26, mu_27, mu_28, mu_29, iI_lt, e, if_true, iI_cl, tn1, ci]
    refine ih (n + 1) _ (by omega) (fun v hv => ?_) (fun a h1 => by rw [up1_ne h1]; exact hA a h1)
    rw [up1_same]
    by_cases c : v = n
    · subst c; rw [upd_same]
    · rw [upd_ne c]; exact hT v (by omega)
theorem k_bares (hK : mK t) (hQ : ∀ (A' : Nat → Nat → Int32), mH (A' 63) ([], []) → (∀ a, a ≠ 63 → A' a = A a) → Q none (t, up1 V 62 (mdR g), A', P)) : Call (d + 1) 78 [.ref 62] (t, up1 V 62 (mdR g), A, P) Q := by
  have hK' := hK
  obtain ⟨m0, ⟨m1, l1⟩, ⟨m2, l2⟩, ⟨m3, l3⟩, ⟨m4, l4⟩, ⟨m5, l5⟩, ⟨m6, l6⟩, ⟨m7, l7⟩, ⟨m8, l8⟩, ⟨m9, l9⟩, ⟨m10, l10⟩, ⟨m11, l11⟩, ⟨m12, l12⟩, ⟨m13, l13⟩, ⟨m14, l14⟩, m15, l15⟩ := hK
  simp (disch := first | assumption | omega | exact isB_z | exact isB_o | exact iI_in' (by assumption) (by omega) (by omega) | exact cat_int _ | exact cat_ref _ | exact cat_null | decide) only [c_78, ↓x_78_0, ↓x_78_1, up1_same, up1_ne, up1_up1, us_0, us_1, us_2, us_3, us_4, us_5, us_6, us_7, us_8, us_9, us_10, us_11, rw_zero, rw_succ, Option.toList_some, Option.toList_none, List.cons_append, List.nil_append, cat_int, cat_ref, cat_null, iI_add, iI_sub, iI_mul, iI_neg, List.length_cons, List.length_nil, ↓reduceIte, va_rf_some, Int.reduceToNat, md_0, md_1, md_2, md_3, md_4, md_5, md_6, md_7, md_8, md_9, md_10, md_11, md_12, md_13, md_14, md_15, md_16, md_17, md_18, md_19, md_20, md_21, md_22, md_23, md_24, md_25, md_26, md_27, md_28, md_29, md_30, md_31, mu_0, mu_3, mu_7, mu_9, mu_12, mu_13, mu_14, mu_15, mu_16, mu_17, mu_18, mu_23, mu_24, mu_26, mu_27, mu_28, mu_29]
  refine bares_loop hK' (A0 := A) (fun A1 q1 q2 => ?_) 228 0 A (by omega) (fun v hv => absurd hv (by omega)) (fun _ _ => rfl)
  simp (disch := first | assumption | omega | exact isB_z | exact isB_o | exact iI_in' (by assumption) (by omega) (by omega) | exact cat_int _ | exact cat_ref _ | exact cat_null | decide) only [↓x_78_22, ↓x_78_23, ↓x_78_26, ↓x_78_27, ↓x_78_28, ↓x_78_29, ↓x_78_30, ↓x_78_33, ↓x_78_34, ↓x_78_36, ↓x_78_37, ↓x_78_38, ↓x_78_41, ↓x_78_42, ↓x_78_44, ↓x_78_45, up1_same, up1_ne, up1_up1, us_0, us_1, us_2, us_3, us_4, us_5, us_6, us_7, us_8, us_9, us_10, us_11, rw_zero, rw_succ, Option.toList_some, Option.toList_none, List.cons_append, List.nil_append, cat_int, cat_ref, cat_null, iI_add, iI_sub, iI_mul, iI_neg, List.length_cons, List.length_nil, ↓reduceIte, va_rf_some, Int.reduceToNat, md_0, md_1, md_2, md_3, md_4, md_5, md_6, md_7, md_8, md_9, md_10, md_11, md_12, md_13, md_14, md_15, md_16, md_17, md_18, md_19, md_20, md_21, md_22, md_23, md_24, md_25, md_26, md_27, md_28, md_29, md_30, md_31, mu_0, mu_3, mu_7, mu_9, mu_12, mu_13, mu_14, mu_15, mu_16, mu_17, mu_18, mu_23, mu_24, mu_26, mu_27, mu_28, mu_29, iI_cl]
  refine hQ _ (mH_nil ?_ ?_ ?_ ?_) (fun a ha => by rw [up1_ne ha]; exact q2 a ha)
  · rw [up1_same]; simp (disch := omega) only [upd_same, upd_ne, q1]
  · rw [up1_same]; simp (disch := omega) only [upd_same, upd_ne, q1]
  · rw [up1_same]; simp (disch := omega) only [upd_same, upd_ne, q1]
  · rw [up1_same]; simp (disch := omega) only [upd_same, upd_ne, q1]
theorem notes_shift (hK : mK t) {A0 : Nat → Nat → Int32} (hQ : ∀ (A' : Nat → Nat → Int32), (∀ v : Nat, v < 1140 → A' 64 v = A0 64 (228 + v)) → (∀ a, a ≠ 64 → A' a = A0 a) → Ev d 92 40 [.ref 62, .int (iI 1140)] [] (t, up1 V 62 (mdR g), A', P) Q) : ∀ (j n : Nat) (A : Nat → Nat → Int32), n + j = 1140 → (∀ v : Nat, v < n → A 64 v = A0 64 (228 + v)) → (∀ v : Nat, n ≤ v → A 64 v = A0 64 v) → (∀ a, a ≠ 64 → A a = A0 a) → Ev d 92 11 [.ref 62, .int (iI n)] [] (t, up1 V 62 (mdR g), A, P) Q := by
  obtain ⟨m0, ⟨m1, l1⟩, ⟨m2, l2⟩, ⟨m3, l3⟩, ⟨m4, l4⟩, ⟨m5, l5⟩, ⟨m6, l6⟩, ⟨m7, l7⟩, ⟨m8, l8⟩, ⟨m9, l9⟩, ⟨m10, l10⟩, ⟨m11, l11⟩, ⟨m12, l12⟩, ⟨m13, l13⟩, ⟨m14, l14⟩, m15, l15⟩ := hK
  intro j
  induction j with
  | zero =>
    intro n A hj hT hU hA
    have : n = 1140 := by omega
    subst this
    rw [x_92_11]
    simp (disch := first | assumption | omega | exact isB_z | exact isB_o | exact iI_in' (by assumption) (by omega) (by omega) | exact cat_int _ | exact cat_ref _ | exact cat_null | decide) only [↓x_92_12, ↓x_92_15, up1_same, up1_ne, up1_up1, us_0, us_1, us_2, us_3, us_4, us_5, us_6, us_7, us_8, us_9, us_10, us_11, rw_zero, rw_succ, Option.toList_some, Option.toList_none, List.cons_append, List.nil_append, cat_int, cat_ref, cat_null, iI_add, iI_sub, iI_mul, iI_neg, List.length_cons, List.length_nil, ↓reduceIte, va_rf_some, Int.reduceToNat, md_0, md_1, md_2, md_3, md_4, md_5, md_6, md_7, md_8, md_9, md_10, md_11, md_12, md_13, md_14, md_15, md_16, md_17, md_18, md_19, md_20, md_21, md_22, md_23, md_24, md_25, md_26, md_27, md_28, md_29, md_30, md_31, mu_0, mu_3, mu_7, mu_9, mu_12, mu_13, mu_14, mu_15, mu_16, mu_17, mu_18, mu_23, mu_24, mu_26, mu_27, mu_28, mu_29, iI_lt]
    simp
    exact hQ A hT hA
  | succ j ih =>
    intro n A hj hT hU hA
    rw [x_92_11]
    have e : (n : Int) < 1140 := by omega
    have tn1 : ((n : Nat) : Int).toNat = n := Int.toNat_natCast _
    have tn2 : (228 + (n : Int)).toNat = 228 + n := by omega
    have ci : (n : Int) + 1 = ((n + 1 : Nat) : Int) := by omega
    simp (disch := first | assumption | omega | exact isB_z | exact isB_o | exact iI_in' (by assumption) (by omega) (by omega) | exact cat_int _ | exact cat_ref _ | exact cat_null | decide) only [↓x_92_12, ↓x_92_15, ↓x_92_18, ↓x_92_19, ↓x_92_22, ↓x_92_23, ↓x_92_24, ↓x_92_27, ↓x_92_30, ↓x_92_31, ↓x_92_32, ↓x_92_33, ↓x_92_34, ↓x_92_37, up1_same, up1_ne, up1_up1, us_0, us_1, us_2, us_3, us_4, us_5, us_6, us_7, us_8, us_9, us_10, us_11, rw_zero, rw_succ, Option.toList_some, Option.toList_none, List.cons_append, List.nil_append, cat_int, cat_ref, cat_null, iI_add, iI_sub, iI_mul, iI_neg, List.length_cons, List.length_nil, ↓reduceIte, va_rf_some, Int.reduceToNat, md_0, md_1, md_2, md_3, md_4, md_5, md_6, md_7, md_8, md_9, md_10, md_11, md_12, md_13, md_14, md_15, md_16, md_17, md_18, md_19, md_20, md_21, md_22, md_23, md_24, md_25, md_26, md_27, md_28, md_29, md_30, md_31, mu_0, mu_3, mu_7, mu_9, mu_12, mu_13, mu_14, mu_15, mu_16, mu_17, mu_18, mu_23, mu_24, mu_26, mu_27, mu_28, mu_29, iI_lt, e, if_true, iI_cl, tn1, tn2, ci]
    refine ih (n + 1) _ (by omega) (fun v hv => ?_) (fun v hv => ?_) (fun a h1 => by rw [up1_ne h1]; exact hA a h1)
    · rw [up1_same]
      by_cases c : v = n
      · subst c; rw [upd_same]; exact hU _ (by omega)
      · rw [upd_ne c]; exact hT v (by omega)
    · rw [up1_same, upd_ne (by omega)]; exact hU v (by omega)
theorem notes_copy (hK : mK t) {A0 : Nat → Nat → Int32} {u : Nat} (hu : u < 6) (h3 : g 3 = u) (hQ : ∀ (A' : Nat → Nat → Int32), (∀ v : Nat, v < 228 → A' 64 (228 * u + v) = A0 63 v) → (∀ v : Nat, v < 228 * u → A' 64 v = A0 64 v) → (∀ a, a ≠ 64 → A' a = A0 a) → Q none (t, up1 V 62 (mdR (up1 g 3 ((u : Int) + 1))), A', P)) : ∀ (j n : Nat) (A : Nat → Nat → Int32), n + j = 228 → (∀ v : Nat, v < n → A 64 (228 * u + v) = A0 63 v) → (∀ v : Nat, v < 228 * u → A 64 v = A0 64 v) → (∀ a, a ≠ 64 → A a = A0 a) → Ev d 92 52 [.ref 62, .int (iI n)] [] (t, up1 V 62 (mdR g), A, P) Q := by
  obtain ⟨m0, ⟨m1, l1⟩, ⟨m2, l2⟩, ⟨m3, l3⟩, ⟨m4, l4⟩, ⟨m5, l5⟩, ⟨m6, l6⟩, ⟨m7, l7⟩, ⟨m8, l8⟩, ⟨m9, l9⟩, ⟨m10, l10⟩, ⟨m11, l11⟩, ⟨m12, l12⟩, ⟨m13, l13⟩, ⟨m14, l14⟩, m15, l15⟩ := hK
  intro j
  induction j with
  | zero =>
    intro n A hj hT hU hA
    have : n = 228 := by omega
    subst this
    rw [x_92_52]
    simp (disch := first | assumption | omega | exact isB_z | exact isB_o | exact iI_in' (by assumption) (by omega) (by omega) | exact cat_int _ | exact cat_ref _ | exact cat_null | decide) only [↓x_92_53, ↓x_92_56, up1_same, up1_ne, up1_up1, us_0, us_1, us_2, us_3, us_4, us_5, us_6, us_7, us_8, us_9, us_10, us_11, rw_zero, rw_succ, Option.toList_some, Option.toList_none, List.cons_append, List.nil_append, cat_int, cat_ref, cat_null, iI_add, iI_sub, iI_mul, iI_neg, List.length_cons, List.length_nil, ↓reduceIte, va_rf_some, Int.reduceToNat, md_0, md_1, md_2, md_3, md_4, md_5, md_6, md_7, md_8, md_9, md_10, md_11, md_12, md_13, md_14, md_15, md_16, md_17, md_18, md_19, md_20, md_21, md_22, md_23, md_24, md_25, md_26, md_27, md_28, md_29, md_30, md_31, mu_0, mu_3, mu_7, mu_9, mu_12, mu_13, mu_14, mu_15, mu_16, mu_17, mu_18, mu_23, mu_24, mu_26, mu_27, mu_28, mu_29, iI_lt]
    simp
    simp (disch := first | assumption | omega | exact isB_z | exact isB_o | exact iI_in' (by assumption) (by omega) (by omega) | exact cat_int _ | exact cat_ref _ | exact cat_null | decide) only [↓x_92_86, ↓x_92_87, ↓x_92_88, ↓x_92_91, ↓x_92_92, ↓x_92_93, ↓x_92_96, up1_same, up1_ne, up1_up1, us_0, us_1, us_2, us_3, us_4, us_5, us_6, us_7, us_8, us_9, us_10, us_11, rw_zero, rw_succ, Option.toList_some, Option.toList_none, List.cons_append, List.nil_append, cat_int, cat_ref, cat_null, iI_add, iI_sub, iI_mul, iI_neg, List.length_cons, List.length_nil, ↓reduceIte, va_rf_some, Int.reduceToNat, md_0, md_1, md_2, md_3, md_4, md_5, md_6, md_7, md_8, md_9, md_10, md_11, md_12, md_13, md_14, md_15, md_16, md_17, md_18, md_19, md_20, md_21, md_22, md_23, md_24, md_25, md_26, md_27, md_28, md_29, md_30, md_31, mu_0, mu_3, mu_7, mu_9, mu_12, mu_13, mu_14, mu_15, mu_16, mu_17, mu_18, mu_23, mu_24, mu_26, mu_27, mu_28, mu_29, h3]
    exact hQ A hT hU hA
  | succ j ih =>
    intro n A hj hT hU hA
    rw [x_92_52]
    have e : (n : Int) < 228 := by omega
    have tn1 : ((n : Nat) : Int).toNat = n := Int.toNat_natCast _
    have tn2 : (228 * (u : Int) + (n : Int)).toNat = 228 * u + n := by omega
    have ci : (n : Int) + 1 = ((n + 1 : Nat) : Int) := by omega
    have h63 := hA 63 (by omega)
    simp (disch := first | assumption | omega | exact isB_z | exact isB_o | exact iI_in' (by assumption) (by omega) (by omega) | exact cat_int _ | exact cat_ref _ | exact cat_null | decide) only [↓x_92_53, ↓x_92_56, ↓x_92_59, ↓x_92_60, ↓x_92_63, ↓x_92_66, ↓x_92_67, ↓x_92_70, ↓x_92_71, ↓x_92_72, ↓x_92_73, ↓x_92_74, ↓x_92_77, ↓x_92_78, ↓x_92_79, ↓x_92_80, ↓x_92_83, up1_same, up1_ne, up1_up1, us_0, us_1, us_2, us_3, us_4, us_5, us_6, us_7, us_8, us_9, us_10, us_11, rw_zero, rw_succ, Option.toList_some, Option.toList_none, List.cons_append, List.nil_append, cat_int, cat_ref, cat_null, iI_add, iI_sub, iI_mul, iI_neg, List.length_cons, List.length_nil, ↓reduceIte, va_rf_some, Int.reduceToNat, md_0, md_1, md_2, md_3, md_4, md_5, md_6, md_7, md_8, md_9, md_10, md_11, md_12, md_13, md_14, md_15, md_16, md_17, md_18, md_19, md_20, md_21, md_22, md_23, md_24, md_25, md_26, md_27, md_28, md_29, md_30, md_31, mu_0, mu_3, mu_7, mu_9, mu_12, mu_13, mu_14, mu_15, mu_16, mu_17, mu_18, mu_23, mu_24, mu_26, mu_27, mu_28, mu_29, iI_lt, e, if_true, iI_cl, h3, tn1, tn2, ci]
    refine ih (n + 1) _ (by omega) (fun v hv => ?_) (fun v hv => ?_) (fun a h1 => by rw [up1_ne h1]; exact hA a h1)
    · rw [up1_same]
      by_cases c : v = n
      · subst c; rw [upd_same, h63]
      · rw [upd_ne (by omega)]; exact hT v (by omega)
    · rw [up1_same, upd_ne (by omega)]; exact hU v (by omega)
theorem RM.note {A' : Nat → Nat → Int32} {u : Nat} {U : List aW} (h : RM g A S) (hS : wfS S) (hu : U.length = u) (hU : ∀ i, i < u → mH (fun k => A' 64 (228 * i + k)) (U.getD i ([], []))) (h1 : ∀ v : Nat, v < 228 → A' 64 (228 * u + v) = A 63 v) (h2 : ∀ a, a ≠ 64 → A' a = A a) {g' : Nat → Int} (g3 : g' 3 = (u : Int) + 1) (g7 : g' 7 = g 7) (g12 : g' 12 = g 12) : RM g' A' (aS.mk S.X (U ++ [S.X]) S.I S.T) := by
  refine ⟨by rw [h2 63 (by omega)]; exact h.wi, ?_, fun i hi => ?_, fun i hi => imM_eq (h.im i hi) (h2 65 (by omega)) (h2 66 (by omega)), g7.trans h.ty, fun i hi => by rw [h2 67 (by omega)]; exact h.tx i hi, ?_⟩
  · rw [g3]; show _ = (((U ++ [S.X]).length : Nat) : Int); simp; omega
  · have hi0 : i < (U ++ [S.X]).length := hi
    have hi' : i < u + 1 := by simpa [hu] using hi0
    show mH _ ((U ++ [S.X]).getD i ([], []))
    by_cases c : i = u
    · subst c
      subst hu
      rw [gapp_eq]
      exact mH_eq h.wi hS.wo (fun k hk => h1 k hk)
    · rw [gapp_lt (by omega)]
      exact hU i (by omega)
  · rw [g12]
    rcases h.la with q | ⟨q, q2⟩
    · exact Or.inl q
    · exact Or.inr ⟨q, tabL_eq q2 (h2 69 (by omega)) (h2 70 (by omega))⟩
theorem k_notes (hK : mK t) (hS : wfS S) (h : RM g A S) (hQ : ∀ (n : Int) (A' : Nat → Nat → Int32), RM (up1 g 3 n) A' (aS.mk S.X (pu S.U S.X) S.I S.T) → (∀ a, a ≠ 64 → A' a = A a) → Q none (t, up1 V 62 (mdR (up1 g 3 n)), A', P)) : Call (d + 1) 92 [.ref 62] (t, up1 V 62 (mdR g), A, P) Q := by
  have m0 := hK.1
  have hul := hS.ul
  have h3 := h.um
  by_cases c : S.U.length = 6
  · have hp : pu S.U S.X = S.U.tail ++ [S.X] := by unfold pu; rw [if_pos c]
    rw [hp] at hQ
    have ht : S.U.tail.length = 5 := by simp; omega
    rw [c] at h3
    simp (disch := first | assumption | omega | exact isB_z | exact isB_o | exact iI_in' (by assumption) (by omega) (by omega) | exact cat_int _ | exact cat_ref _ | exact cat_null | decide) only [c_92, ↓x_92_0, ↓x_92_1, ↓x_92_4, ↓x_92_6, ↓x_92_9, ↓x_92_10, up1_same, up1_ne, up1_up1, us_0, us_1, us_2, us_3, us_4, us_5, us_6, us_7, us_8, us_9, us_10, us_11, rw_zero, rw_succ, Option.toList_some, Option.toList_none, List.cons_append, List.nil_append, cat_int, cat_ref, cat_null, iI_add, iI_sub, iI_mul, iI_neg, List.length_cons, List.length_nil, ↓reduceIte, va_rf_some, Int.reduceToNat, md_0, md_1, md_2, md_3, md_4, md_5, md_6, md_7, md_8, md_9, md_10, md_11, md_12, md_13, md_14, md_15, md_16, md_17, md_18, md_19, md_20, md_21, md_22, md_23, md_24, md_25, md_26, md_27, md_28, md_29, md_30, md_31, mu_0, mu_3, mu_7, mu_9, mu_12, mu_13, mu_14, mu_15, mu_16, mu_17, mu_18, mu_23, mu_24, mu_26, mu_27, mu_28, mu_29, h3, iI_eq, if_true]
    simp
    refine notes_shift hK (A0 := A) (fun A1 q1 q2 => ?_) 1140 0 A (by omega) (fun v hv => absurd hv (by omega)) (fun _ _ => rfl) (fun _ _ => rfl)
    simp (disch := first | assumption | omega | exact isB_z | exact isB_o | exact iI_in' (by assumption) (by omega) (by omega) | exact cat_int _ | exact cat_ref _ | exact cat_null | decide) only [↓x_92_40, ↓x_92_41, ↓x_92_42, ↓x_92_45, ↓x_92_46, ↓x_92_47, ↓x_92_50, ↓x_92_51, up1_same, up1_ne, up1_up1, us_0, us_1, us_2, us_3, us_4, us_5, us_6, us_7, us_8, us_9, us_10, us_11, rw_zero, rw_succ, Option.toList_some, Option.toList_none, List.cons_append, List.nil_append, cat_int, cat_ref, cat_null, iI_add, iI_sub, iI_mul, iI_neg, List.length_cons, List.length_nil, ↓reduceIte, va_rf_some, Int.reduceToNat, md_0, md_1, md_2, md_3, md_4, md_5, md_6, md_7, md_8, md_9, md_10, md_11, md_12, md_13, md_14, md_15, md_16, md_17, md_18, md_19, md_20, md_21, md_22, md_23, md_24, md_25, md_26, md_27, md_28, md_29, md_30, md_31, mu_0, mu_3, mu_7, mu_9, mu_12, mu_13, mu_14, mu_15, mu_16, mu_17, mu_18, mu_23, mu_24, mu_26, mu_27, mu_28, mu_29, h3]
    refine notes_copy hK (A0 := A1) (u := 5) (by omega) (by rw [up1_same]; rfl) (fun A2 r1 r2 r3 => ?_) 228 0 A1 (by omega) (fun v hv => absurd hv (by omega)) (fun _ _ => rfl) (fun _ _ => rfl)
    rw [up1_up1]
    refine hQ _ A2 (h.note (u := 5) hS ht (fun i hi => ?_) (fun v hv => by rw [r1 v hv, q2 63 (by omega)]) (fun a ha => (r3 a ha).trans (q2 a ha)) (up1_same _ _ _) (up1_ne (by omega)) (up1_ne (by omega))) (fun a ha => (r3 a ha).trans (q2 a ha))
    rw [gtail]
    refine mH_eq (h.ew (i + 1) (by omega)) (hS.uw _ (by omega)) (fun k hk => ?_)
    show A2 64 _ = A 64 _
    rw [r2 _ (by omega), q1 _ (by omega), show 228 + (228 * i + k) = 228 * (i + 1) + k by omega]
  · have hp : pu S.U S.X = S.U ++ [S.X] := by unfold pu; rw [if_neg c]
    rw [hp] at hQ
    have e : ¬ (S.U.length : Int) = 6 := by omega
    simp (disch := first | assumption | omega | exact isB_z | exact isB_o | exact iI_in' (by assumption) (by omega) (by omega) | exact cat_int _ | exact cat_ref _ | exact cat_null | decide) only [c_92, ↓x_92_0, ↓x_92_1, ↓x_92_4, ↓x_92_6, ↓x_92_50, ↓x_92_51, up1_same, up1_ne, up1_up1, us_0, us_1, us_2, us_3, us_4, us_5, us_6, us_7, us_8, us_9, us_10, us_11, rw_zero, rw_succ, Option.toList_some, Option.toList_none, List.cons_append, List.nil_append, cat_int, cat_ref, cat_null, iI_add, iI_sub, iI_mul, iI_neg, List.length_cons, List.length_nil, ↓reduceIte, va_rf_some, Int.reduceToNat, md_0, md_1, md_2, md_3, md_4, md_5, md_6, md_7, md_8, md_9, md_10, md_11, md_12, md_13, md_14, md_15, md_16, md_17, md_18, md_19, md_20, md_21, md_22, md_23, md_24, md_25, md_26, md_27, md_28, md_29, md_30, md_31, mu_0, mu_3, mu_7, mu_9, mu_12, mu_13, mu_14, mu_15, mu_16, mu_17, mu_18, mu_23, mu_24, mu_26, mu_27, mu_28, mu_29, h3, iI_eq, e, if_false]
    refine notes_copy hK (A0 := A) (u := S.U.length) (by omega) h3 (fun A2 r1 r2 r3 => ?_) 228 0 A (by omega) (fun v hv => absurd hv (by omega)) (fun _ _ => rfl) (fun _ _ => rfl)
    refine hQ _ A2 (h.note hS rfl (fun i hi => ?_) r1 r3 (up1_same _ _ _) (up1_ne (by omega)) (up1_ne (by omega))) r3
    refine mH_eq (h.ew i hi) (hS.uw _ hi) (fun k hk => ?_)
    show A2 64 _ = A 64 _
    rw [r2 _ (by omega)]
theorem k_remembers {l m : Int} (hK : mK t) (hl : A 63 3 = iI l) (h1 : -9 ≤ l ∧ l ≤ 2) (h2 : 0 ≤ m ∧ m ≤ 2) : Call (d + 1) 93 [.ref 62, .int (iI m)] (t, up1 V 62 (mdR g), A, P) Q = Q none (t, up1 V 62 (mdR g), up1 A 63 (if m = l then A 63 else upd (upd (A 63) 2 (iI l)) 3 (iI m)), P) := by
  obtain ⟨m0, ⟨m1, l1⟩, ⟨m2, l2⟩, ⟨m3, l3⟩, ⟨m4, l4⟩, ⟨m5, l5⟩, ⟨m6, l6⟩, ⟨m7, l7⟩, ⟨m8, l8⟩, ⟨m9, l9⟩, ⟨m10, l10⟩, ⟨m11, l11⟩, ⟨m12, l12⟩, ⟨m13, l13⟩, ⟨m14, l14⟩, m15, l15⟩ := hK
  simp (disch := first | assumption | omega | exact isB_z | exact isB_o | exact iI_in' (by assumption) (by omega) (by omega) | exact cat_int _ | exact cat_ref _ | exact cat_null | decide) only [c_93, ↓x_93_0, ↓x_93_1, ↓x_93_4, ↓x_93_5, ↓x_93_6, ↓x_93_7, up1_same, up1_ne, up1_up1, us_0, us_1, us_2, us_3, us_4, us_5, us_6, us_7, us_8, us_9, us_10, us_11, rw_zero, rw_succ, Option.toList_some, Option.toList_none, List.cons_append, List.nil_append, cat_int, cat_ref, cat_null, iI_add, iI_sub, iI_mul, iI_neg, List.length_cons, List.length_nil, ↓reduceIte, va_rf_some, Int.reduceToNat, md_0, md_1, md_2, md_3, md_4, md_5, md_6, md_7, md_8, md_9, md_10, md_11, md_12, md_13, md_14, md_15, md_16, md_17, md_18, md_19, md_20, md_21, md_22, md_23, md_24, md_25, md_26, md_27, md_28, md_29, md_30, md_31, mu_0, mu_3, mu_7, mu_9, mu_12, mu_13, mu_14, mu_15, mu_16, mu_17, mu_18, mu_23, mu_24, mu_26, mu_27, mu_28, mu_29, iI_cl, hl, iI_eq]
  by_cases c : l = m
  · subst c
    simp (disch := first | assumption | omega | exact isB_z | exact isB_o | exact iI_in' (by assumption) (by omega) (by omega) | exact cat_int _ | exact cat_ref _ | exact cat_null | decide) only [if_true, ↓x_93_10, up1_same, up1_ne, up1_up1, us_0, us_1, us_2, us_3, us_4, us_5, us_6, us_7, us_8, us_9, us_10, us_11, rw_zero, rw_succ, Option.toList_some, Option.toList_none, List.cons_append, List.nil_append, cat_int, cat_ref, cat_null, iI_add, iI_sub, iI_mul, iI_neg, List.length_cons, List.length_nil, ↓reduceIte, va_rf_some, Int.reduceToNat, md_0, md_1, md_2, md_3, md_4, md_5, md_6, md_7, md_8, md_9, md_10, md_11, md_12, md_13, md_14, md_15, md_16, md_17, md_18, md_19, md_20, md_21, md_22, md_23, md_24, md_25, md_26, md_27, md_28, md_29, md_30, md_31, mu_0, mu_3, mu_7, mu_9, mu_12, mu_13, mu_14, mu_15, mu_16, mu_17, mu_18, mu_23, mu_24, mu_26, mu_27, mu_28, mu_29, up1_self]
  · rw [if_neg c, if_neg (fun q => c q.symm)]
    simp (disch := first | assumption | omega | exact isB_z | exact isB_o | exact iI_in' (by assumption) (by omega) (by omega) | exact cat_int _ | exact cat_ref _ | exact cat_null | decide) only [↓x_93_11, ↓x_93_12, ↓x_93_15, ↓x_93_16, ↓x_93_17, ↓x_93_20, ↓x_93_21, ↓x_93_22, ↓x_93_23, ↓x_93_24, ↓x_93_27, ↓x_93_28, ↓x_93_29, ↓x_93_30, up1_same, up1_ne, up1_up1, us_0, us_1, us_2, us_3, us_4, us_5, us_6, us_7, us_8, us_9, us_10, us_11, rw_zero, rw_succ, Option.toList_some, Option.toList_none, List.cons_append, List.nil_append, cat_int, cat_ref, cat_null, iI_add, iI_sub, iI_mul, iI_neg, List.length_cons, List.length_nil, ↓reduceIte, va_rf_some, Int.reduceToNat, md_0, md_1, md_2, md_3, md_4, md_5, md_6, md_7, md_8, md_9, md_10, md_11, md_12, md_13, md_14, md_15, md_16, md_17, md_18, md_19, md_20, md_21, md_22, md_23, md_24, md_25, md_26, md_27, md_28, md_29, md_30, md_31, mu_0, mu_3, mu_7, mu_9, mu_12, mu_13, mu_14, mu_15, mu_16, mu_17, mu_18, mu_23, mu_24, mu_26, mu_27, mu_28, mu_29, iI_cl, hl]
theorem sent_bits (hK : mK t) {A0 : Nat → Nat → Int32} {n : Nat} {k : Value} {v : Int} (hn : n < 32) (h0 : A0 63 0 = iI n) (v0 : 0 ≤ v) (v1 : v < 64) (hQ : ∀ (A' : Nat → Nat → Int32), (∀ q : Nat, q < 6 → A' 63 (36 + 6 * n + q) = iI (v / 2 ^ (5 - q) % 2)) → (∀ q : Nat, q < 36 + 6 * n → A' 63 q = A0 63 q) → (∀ a, a ≠ 63 → A' a = A0 a) → Ev d 94 59 [.ref 62, k, .int (iI v), .int (iI 6)] [] (t, up1 V 62 (mdR g), A', P) Q) : ∀ (j b : Nat) (A : Nat → Nat → Int32), b + j = 6 → (∀ q : Nat, q < b → A 63 (36 + 6 * n + q) = iI (v / 2 ^ (5 - q) % 2)) → (∀ q : Nat, q < 36 + 6 * n → A 63 q = A0 63 q) → (∀ a, a ≠ 63 → A a = A0 a) → Ev d 94 21 [.ref 62, k, .int (iI v), .int (iI b)] [] (t, up1 V 62 (mdR g), A, P) Q := by
  obtain ⟨m0, ⟨m1, l1⟩, ⟨m2, l2⟩, ⟨m3, l3⟩, ⟨m4, l4⟩, ⟨m5, l5⟩, ⟨m6, l6⟩, ⟨m7, l7⟩, ⟨m8, l8⟩, ⟨m9, l9⟩, ⟨m10, l10⟩, ⟨m11, l11⟩, ⟨m12, l12⟩, ⟨m13, l13⟩, ⟨m14, l14⟩, m15, l15⟩ := hK
  intro j
  induction j with
  | zero =>
    intro b A hj hT hU hA
    have : b = 6 := by omega
    subst this
    rw [x_94_21]
    simp (disch := first | assumption | omega | exact isB_z | exact isB_o | exact iI_in' (by assumption) (by omega) (by omega) | exact cat_int _ | exact cat_ref _ | exact cat_null | decide) only [↓x_94_22, ↓x_94_24, up1_same, up1_ne, up1_up1, us_0, us_1, us_2, us_3, us_4, us_5, us_6, us_7, us_8, us_9, us_10, us_11, rw_zero, rw_succ, Option.toList_some, Option.toList_none, List.cons_append, List.nil_append, cat_int, cat_ref, cat_null, iI_add, iI_sub, iI_mul, iI_neg, List.length_cons, List.length_nil, ↓reduceIte, va_rf_some, Int.reduceToNat, md_0, md_1, md_2, md_3, md_4, md_5, md_6, md_7, md_8, md_9, md_10, md_11, md_12, md_13, md_14, md_15, md_16, md_17, md_18, md_19, md_20, md_21, md_22, md_23, md_24, md_25, md_26, md_27, md_28, md_29, md_30, md_31, mu_0, mu_3, mu_7, mu_9, mu_12, mu_13, mu_14, mu_15, mu_16, mu_17, mu_18, mu_23, mu_24, mu_26, mu_27, mu_28, mu_29, iI_lt]
    simp
    exact hQ A hT hU hA
  | succ j ih =>
    intro b A hj hT hU hA
    rw [x_94_21]
    have e : (b : Int) < 6 := by omega
    have q0 : A 63 0 = iI n := (hU 0 (by omega)).trans h0
    have tn2 : (36 + 6 * (n : Int) + (b : Int)).toNat = 36 + 6 * n + b := by omega
    have ci : (b : Int) + 1 = ((b + 1 : Nat) : Int) := by omega
    have hsh := sh_6 v0 v1 (j := 5 - (b : Int)) (by omega) (by omega)
    have e5 : (5 - (b : Int)).toNat = 5 - b := by omega
    rw [e5] at hsh
    simp (disch := first | assumption | omega | exact isB_z | exact isB_o | exact iI_in' (by assumption) (by omega) (by omega) | exact cat_int _ | exact cat_ref _ | exact cat_null | decide) only [↓x_94_22, ↓x_94_24, ↓x_94_27, ↓x_94_28, ↓x_94_31, ↓x_94_33, ↓x_94_35, ↓x_94_36, ↓x_94_39, ↓x_94_40, ↓x_94_41, ↓x_94_42, ↓x_94_43, ↓x_94_44, ↓x_94_45, ↓x_94_46, ↓x_94_47, ↓x_94_48, ↓x_94_49, ↓x_94_50, ↓x_94_51, ↓x_94_52, ↓x_94_53, ↓x_94_56, up1_same, up1_ne, up1_up1, us_0, us_1, us_2, us_3, us_4, us_5, us_6, us_7, us_8, us_9, us_10, us_11, rw_zero, rw_succ, Option.toList_some, Option.toList_none, List.cons_append, List.nil_append, cat_int, cat_ref, cat_null, iI_add, iI_sub, iI_mul, iI_neg, List.length_cons, List.length_nil, ↓reduceIte, va_rf_some, Int.reduceToNat, md_0, md_1, md_2, md_3, md_4, md_5, md_6, md_7, md_8, md_9, md_10, md_11, md_12, md_13, md_14, md_15, md_16, md_17, md_18, md_19, md_20, md_21, md_22, md_23, md_24, md_25, md_26, md_27, md_28, md_29, md_30, md_31, mu_0, mu_3, mu_7, mu_9, mu_12, mu_13, mu_14, mu_15, mu_16, mu_17, mu_18, mu_23, mu_24, mu_26, mu_27, mu_28, mu_29, iI_lt, e, if_true, iI_cl, q0, tn2, ci, hsh]
    refine ih (b + 1) _ (by omega) (fun q hq => ?_) (fun q hq => ?_) (fun a h1 => by rw [up1_ne h1]; exact hA a h1)
    · rw [up1_same]
      by_cases c : q = b
      · subst c; rw [upd_same]
      · rw [upd_ne (by omega)]; exact hT q (by omega)
    · rw [up1_same, upd_ne (by omega)]; exact hU q hq
set_option maxHeartbeats 400000 in
theorem k_sent {k : Int} (hK : mK t) (hX : wf X) (h : mH (A 63) X) (hn : X.1.length < 32) (h0 : 0 ≤ k) (h1 : k < 34) (hQ : ∀ A' : Nat → Nat → Int32, mH (A' 63) (sX X k) → (∀ a, a ≠ 63 → A' a = A a) → Q (some (.int (iI (fD k (sm X.1))))) (t, up1 V 62 (mdR g), A', P)) : Call (d + 4) 94 [.ref 62, .int (iI k)] (t, up1 V 62 (mdR g), A, P) Q := by
  have hK' := hK
  obtain ⟨m0, ⟨m1, l1⟩, ⟨m2, l2⟩, ⟨m3, l3⟩, ⟨m4, l4⟩, ⟨m5, l5⟩, ⟨m6, l6⟩, ⟨m7, l7⟩, ⟨m8, l8⟩, ⟨m9, l9⟩, ⟨m10, l10⟩, ⟨m11, l11⟩, ⟨m12, l12⟩, ⟨m13, l13⟩, ⟨m14, l14⟩, m15, l15⟩ := hK
  have hs := sm_b X.1
  have hrc := rc_b hX
  have hv := fD_b (sm X.1) h0 h1
  have a0 := h.h0
  have a1 := h.h1
  have a2 := h.h2
  have a3 := h.h3
  have hp := pc_b hv.1 hv.2
  have key : Call (d + 4) 94 [.ref 62, .int (iI k)] (t, up1 V 62 (mdR g), A, P) Q = Ev (d + 3) 94 18 [.ref 62, .int (iI k), .null, .null] [.int (iI (fD k (sm X.1)))] (t, up1 V 62 (mdR g), A, P) Q := by
    have hD := fO_D (k := k) hs
    by_cases c : sm X.1 < 0
    · rw [if_pos c] at hD
      simp (disch := first | assumption | omega | exact isB_z | exact isB_o | exact iI_in' (by assumption) (by omega) (by omega) | exact cat_int _ | exact cat_ref _ | exact cat_null | decide) only [c_94, ↓x_94_0, ↓x_94_1, ↓x_94_2, ↓x_94_5, ↓x_94_6, ↓x_94_7, ↓x_94_10, ↓x_94_11, ↓x_94_14, ↓x_94_15, up1_same, up1_ne, up1_up1, us_0, us_1, us_2, us_3, us_4, us_5, us_6, us_7, us_8, us_9, us_10, us_11, rw_zero, rw_succ, Option.toList_some, Option.toList_none, List.cons_append, List.nil_append, cat_int, cat_ref, cat_null, iI_add, iI_sub, iI_mul, iI_neg, List.length_cons, List.length_nil, ↓reduceIte, va_rf_some, Int.reduceToNat, md_0, md_1, md_2, md_3, md_4, md_5, md_6, md_7, md_8, md_9, md_10, md_11, md_12, md_13, md_14, md_15, md_16, md_17, md_18, md_19, md_20, md_21, md_22, md_23, md_24, md_25, md_26, md_27, md_28, md_29, md_30, md_31, mu_0, mu_3, mu_7, mu_9, mu_12, mu_13, mu_14, mu_15, mu_16, mu_17, mu_18, mu_23, mu_24, mu_26, mu_27, mu_28, mu_29, iI_cl, a1, iI_lt, c, if_true, k_formOf h0 h1, hD]
    · rw [if_neg c] at hD
      simp (disch := first | assumption | omega | exact isB_z | exact isB_o | exact iI_in' (by assumption) (by omega) (by omega) | exact cat_int _ | exact cat_ref _ | exact cat_null | decide) only [c_94, ↓x_94_0, ↓x_94_1, ↓x_94_2, ↓x_94_5, ↓x_94_6, ↓x_94_7, ↓x_94_10, ↓x_94_11, ↓x_94_14, ↓x_94_15, up1_same, up1_ne, up1_up1, us_0, us_1, us_2, us_3, us_4, us_5, us_6, us_7, us_8, us_9, us_10, us_11, rw_zero, rw_succ, Option.toList_some, Option.toList_none, List.cons_append, List.nil_append, cat_int, cat_ref, cat_null, iI_add, iI_sub, iI_mul, iI_neg, List.length_cons, List.length_nil, ↓reduceIte, va_rf_some, Int.reduceToNat, md_0, md_1, md_2, md_3, md_4, md_5, md_6, md_7, md_8, md_9, md_10, md_11, md_12, md_13, md_14, md_15, md_16, md_17, md_18, md_19, md_20, md_21, md_22, md_23, md_24, md_25, md_26, md_27, md_28, md_29, md_30, md_31, mu_0, mu_3, mu_7, mu_9, mu_12, mu_13, mu_14, mu_15, mu_16, mu_17, mu_18, mu_23, mu_24, mu_26, mu_27, mu_28, mu_29, iI_cl, a1, iI_lt, c, if_false, k_formOf h0 h1 (Or.inr rfl), hD]
  rw [key]
  have hsB := sB_D h0 h1 hs
  have e4 : sm (sX X k).1 = sB (fD k (sm X.1)) (sm X.1) := sm_app _ _
  have e5 : rc (sX X k).1 = (if 31 ≤ k ∧ k - 31 ≠ (rc X.1).2 then ((rc X.1).2, k - 31) else rc X.1) := rc_app _ _
  have e6 : (sX X k).1.length = X.1.length + 1 := by simp [sX]
  have e7 : ∀ i : Nat, i < X.1.length + 1 → (sX X k).1.getD i 0 = if i = X.1.length then k else X.1.getD i 0 := fun i hi => by
    show (X.1 ++ [k]).getD i 0 = _
    by_cases c : i = X.1.length
    · subst c; rw [if_pos rfl, getD_app_eq]
    · rw [if_neg c, getD_app_lt (by omega)]
  have e8 : ∀ b : Nat, b < 6 * X.1.length → btA (sX X k).2 b = btA X.2 b := fun b hb => btA_app_lt (by have := hX.2.1; omega)
  have e9 : ∀ b : Nat, b < 6 → btA (sX X k).2 ((6 * X.1.length + b : Nat) : Int) = fD k (sm X.1) / 2 ^ (5 - b) % 2 := fun b hb => by
    have := btA_app_eq (l := X.2) (v := fD k (sm X.1)) hb
    rw [hX.2.1] at this
    exact this
  obtain ⟨v, hvd⟩ : ∃ v, v = fD k (sm X.1) := ⟨_, rfl⟩
  rw [← hvd] at hQ hsB e4 e9 hv hp ⊢
  obtain ⟨X', hX'⟩ : ∃ X', X' = sX X k := ⟨_, rfl⟩
  rw [← hX'] at hQ e4 e5 e6 e7 e8 e9
  simp (disch := first | assumption | omega | exact isB_z | exact isB_o | exact iI_in' (by assumption) (by omega) (by omega) | exact cat_int _ | exact cat_ref _ | exact cat_null | decide) only [↓x_94_18, ↓x_94_19, ↓x_94_20, up1_same, up1_ne, up1_up1, us_0, us_1, us_2, us_3, us_4, us_5, us_6, us_7, us_8, us_9, us_10, us_11, rw_zero, rw_succ, Option.toList_some, Option.toList_none, List.cons_append, List.nil_append, cat_int, cat_ref, cat_null, iI_add, iI_sub, iI_mul, iI_neg, List.length_cons, List.length_nil, ↓reduceIte, va_rf_some, Int.reduceToNat, md_0, md_1, md_2, md_3, md_4, md_5, md_6, md_7, md_8, md_9, md_10, md_11, md_12, md_13, md_14, md_15, md_16, md_17, md_18, md_19, md_20, md_21, md_22, md_23, md_24, md_25, md_26, md_27, md_28, md_29, md_30, md_31, mu_0, mu_3, mu_7, mu_9, mu_12, mu_13, mu_14, mu_15, mu_16, mu_17, mu_18, mu_23, mu_24, mu_26, mu_27, mu_28, mu_29]
  refine sent_bits hK' hn a0 hv.1 hv.2 (fun A1 q1 q2 q3 => ?_) 6 0 A (by omega) (fun q hq => absurd hq (by omega)) (fun _ _ => rfl) (fun _ _ => rfl)
  have b0 : A1 63 0 = iI X.1.length := (q2 0 (by omega)).trans a0
  have b1 : A1 63 1 = iI (sm X.1) := (q2 1 (by omega)).trans a1
  have b2 : A1 63 2 = iI (rc X.1).1 := (q2 2 (by omega)).trans a2
  have b3 : A1 63 3 = iI (rc X.1).2 := (q2 3 (by omega)).trans a3
  have b4 : ∀ i, i < X.1.length → A1 63 (4 + i) = iI (X.1.getD i 0) := fun i hi => (q2 _ (by omega)).trans (h.h4 i hi)
  have b5 : ∀ b, b < 6 * X.1.length → A1 63 (36 + b) = iI (btA X.2 b) := fun i hi => (q2 _ (by omega)).trans (h.h5 i hi)
  have b6 : ∀ b, b < 6 * (X.1.length + 1) → A1 63 (36 + b) = iI (btA X'.2 b) := fun b hb => by
    by_cases c : b < 6 * X.1.length
    · rw [b5 b c, e8 b c]
    · have := q1 (b - 6 * X.1.length) (by omega)
      rw [show 36 + 6 * X.1.length + (b - 6 * X.1.length) = 36 + b by omega] at this
      have e := e9 (b - 6 * X.1.length) (by omega)
      rw [show 6 * X.1.length + (b - 6 * X.1.length) = b by omega] at e
      rw [this, e]
  have tn4 : (4 + (X.1.length : Int)).toNat = 4 + X.1.length := by omega
  have ne1 : (0 : Nat) ≠ 4 + X.1.length := by omega
  have ne2 : (1 : Nat) ≠ 4 + X.1.length := by omega
  have ne3 : (1 : Nat) ≠ 0 := by omega
  have hmid : ∀ s' : Int, s' = sm X'.1 → ∀ (A3 : Nat → Nat → Int32), A3 63 = upd (upd (upd (A1 63) (4 + X.1.length) (iI k)) 0 (iI ((X.1.length : Int) + 1))) 1 (iI s') → (∀ a, a ≠ 63 → A3 a = A a) → Ev (d + 3) 94 113 [.ref 62, .int (iI k), .int (iI v), .int (iI 6)] [] (t, up1 V 62 (mdR g), A3, P) Q := by
    intro s' hs' A3 h63 hA3
    have c3 : A3 63 3 = iI (rc X.1).2 := by rw [h63]; simp (disch := omega) only [upd_ne]; exact b3
    have c2 : A3 63 2 = iI (rc X.1).1 := by rw [h63]; simp (disch := omega) only [upd_ne]; exact b2
    have c0 : A3 63 0 = iI X'.1.length := by rw [h63]; simp (disch := omega) only [upd_ne, upd_same]; rw [e6]; rfl
    have c1 : A3 63 1 = iI (sm X'.1) := by rw [h63, upd_same, hs']
    have c4 : ∀ i, i < X'.1.length → A3 63 (4 + i) = iI (X'.1.getD i 0) := fun i hi => by
      rw [e6] at hi
      rw [h63, upd_ne (by omega), upd_ne (by omega), e7 i hi]
      by_cases c : i = X.1.length
      · subst c; rw [upd_same, if_pos rfl]
      · rw [upd_ne (by omega), if_neg c]; exact b4 i (by omega)
    have c5 : ∀ b, b < 6 * X'.1.length → A3 63 (36 + b) = iI (btA X'.2 b) := fun b hb => by
      rw [e6] at hb
      rw [h63, upd_ne (by omega), upd_ne (by omega), upd_ne (by omega)]
      exact b6 b hb
    by_cases c : 30 < k
    · simp (disch := first | assumption | omega | exact isB_z | exact isB_o | exact iI_in' (by assumption) (by omega) (by omega) | exact cat_int _ | exact cat_ref _ | exact cat_null | decide) only [↓x_94_113, ↓x_94_114, ↓x_94_116, ↓x_94_119, ↓x_94_120, ↓x_94_121, ↓x_94_123, ↓x_94_124, up1_same, up1_ne, up1_up1, us_0, us_1, us_2, us_3, us_4, us_5, us_6, us_7, us_8, us_9, us_10, us_11, rw_zero, rw_succ, Option.toList_some, Option.toList_none, List.cons_append, List.nil_append, cat_int, cat_ref, cat_null, iI_add, iI_sub, iI_mul, iI_neg, List.length_cons, List.length_nil, ↓reduceIte, va_rf_some, Int.reduceToNat, md_0, md_1, md_2, md_3, md_4, md_5, md_6, md_7, md_8, md_9, md_10, md_11, md_12, md_13, md_14, md_15, md_16, md_17, md_18, md_19, md_20, md_21, md_22, md_23, md_24, md_25, md_26, md_27, md_28, md_29, md_30, md_31, mu_0, mu_3, mu_7, mu_9, mu_12, mu_13, mu_14, mu_15, mu_16, mu_17, mu_18, mu_23, mu_24, mu_26, mu_27, mu_28, mu_29, iI_lt, c, if_true]
      rw [k_remembers hK' c3 hrc.2.2 (by omega)]
      simp (disch := first | assumption | omega | exact isB_z | exact isB_o | exact iI_in' (by assumption) (by omega) (by omega) | exact cat_int _ | exact cat_ref _ | exact cat_null | decide) only [↓x_94_127, ↓x_94_128, up1_same, up1_ne, up1_up1, us_0, us_1, us_2, us_3, us_4, us_5, us_6, us_7, us_8, us_9, us_10, us_11, rw_zero, rw_succ, Option.toList_some, Option.toList_none, List.cons_append, List.nil_append, cat_int, cat_ref, cat_null, iI_add, iI_sub, iI_mul, iI_neg, List.length_cons, List.length_nil, ↓reduceIte, va_rf_some, Int.reduceToNat, md_0, md_1, md_2, md_3, md_4, md_5, md_6, md_7, md_8, md_9, md_10, md_11, md_12, md_13, md_14, md_15, md_16, md_17, md_18, md_19, md_20, md_21, md_22, md_23, md_24, md_25, md_26, md_27, md_28, md_29, md_30, md_31, mu_0, mu_3, mu_7, mu_9, mu_12, mu_13, mu_14, mu_15, mu_16, mu_17, mu_18, mu_23, mu_24, mu_26, mu_27, mu_28, mu_29]
      refine hQ _ ?_ (fun a ha => by rw [up1_ne ha]; exact hA3 a ha)
      rw [up1_same]
      by_cases g2 : k - 31 = (rc X.1).2
      · rw [if_pos g2]
        rw [if_neg (fun q => q.2 g2)] at e5
        exact ⟨c0, c1, by rw [e5]; exact c2, by rw [e5]; exact c3, c4, c5⟩
      · rw [if_neg g2]
        rw [if_pos ⟨by omega, g2⟩] at e5
        refine ⟨?_, ?_, ?_, ?_, fun i hi => ?_, fun b hb => ?_⟩
        · simp (disch := omega) only [upd_ne]; exact c0
        · simp (disch := omega) only [upd_ne]; exact c1
        · simp (disch := omega) only [upd_ne, upd_same]; rw [e5]
        · rw [upd_same, e5]
        · rw [upd_ne (by omega), upd_ne (by omega)]; exact c4 i hi
        · rw [upd_ne (by omega), upd_ne (by omega)]; exact c5 b hb
    · simp (disch := first | assumption | omega | exact isB_z | exact isB_o | exact iI_in' (by assumption) (by omega) (by omega) | exact cat_int _ | exact cat_ref _ | exact cat_null | decide) only [↓x_94_113, ↓x_94_114, ↓x_94_116, ↓x_94_119, ↓x_94_120, ↓x_94_121, ↓x_94_123, ↓x_94_124, ↓x_94_127, ↓x_94_128, up1_same, up1_ne, up1_up1, us_0, us_1, us_2, us_3, us_4, us_5, us_6, us_7, us_8, us_9, us_10, us_11, rw_zero, rw_succ, Option.toList_some, Option.toList_none, List.cons_append, List.nil_append, cat_int, cat_ref, cat_null, iI_add, iI_sub, iI_mul, iI_neg, List.length_cons, List.length_nil, ↓reduceIte, va_rf_some, Int.reduceToNat, md_0, md_1, md_2, md_3, md_4, md_5, md_6, md_7, md_8, md_9, md_10, md_11, md_12, md_13, md_14, md_15, md_16, md_17, md_18, md_19, md_20, md_21, md_22, md_23, md_24, md_25, md_26, md_27, md_28, md_29, md_30, md_31, mu_0, mu_3, mu_7, mu_9, mu_12, mu_13, mu_14, mu_15, mu_16, mu_17, mu_18, mu_23, mu_24, mu_26, mu_27, mu_28, mu_29, iI_lt, c, if_false]
      rw [if_neg (fun q => by omega)] at e5
      exact hQ A3 ⟨c0, c1, by rw [e5]; exact c2, by rw [e5]; exact c3, c4, c5⟩ hA3
  simp (disch := first | assumption | omega | exact isB_z | exact isB_o | exact iI_in' (by assumption) (by omega) (by omega) | exact cat_int _ | exact cat_ref _ | exact cat_null | decide) only [↓x_94_59, ↓x_94_60, ↓x_94_63, ↓x_94_64, ↓x_94_65, ↓x_94_68, ↓x_94_69, ↓x_94_70, ↓x_94_71, ↓x_94_72, ↓x_94_73, ↓x_94_74, ↓x_94_77, ↓x_94_78, ↓x_94_79, ↓x_94_80, ↓x_94_81, ↓x_94_82, ↓x_94_83, ↓x_94_84, ↓x_94_87, ↓x_94_88, ↓x_94_89, ↓x_94_92, ↓x_94_93, up1_same, up1_ne, up1_up1, us_0, us_1, us_2, us_3, us_4, us_5, us_6, us_7, us_8, us_9, us_10, us_11, rw_zero, rw_succ, Option.toList_some, Option.toList_none, List.cons_append, List.nil_append, cat_int, cat_ref, cat_null, iI_add, iI_sub, iI_mul, iI_neg, List.length_cons, List.length_nil, ↓reduceIte, va_rf_some, Int.reduceToNat, md_0, md_1, md_2, md_3, md_4, md_5, md_6, md_7, md_8, md_9, md_10, md_11, md_12, md_13, md_14, md_15, md_16, md_17, md_18, md_19, md_20, md_21, md_22, md_23, md_24, md_25, md_26, md_27, md_28, md_29, md_30, md_31, mu_0, mu_3, mu_7, mu_9, mu_12, mu_13, mu_14, mu_15, mu_16, mu_17, mu_18, mu_23, mu_24, mu_26, mu_27, mu_28, mu_29, iI_cl, b0, tn4, upd_ne, k_onesM hv.1 hv.2, iI_eq]
  by_cases c : pcI v = 3
  · rw [if_pos c] at hsB
    rw [if_pos c]
    simp (disch := first | assumption | omega | exact isB_z | exact isB_o | exact iI_in' (by assumption) (by omega) (by omega) | exact cat_int _ | exact cat_ref _ | exact cat_null | decide) only [↓x_94_96, ↓x_94_97, ↓x_94_100, ↓x_94_101, ↓x_94_102, ↓x_94_105, ↓x_94_106, ↓x_94_109, ↓x_94_110, ↓x_94_111, ↓x_94_112, up1_same, up1_ne, up1_up1, us_0, us_1, us_2, us_3, us_4, us_5, us_6, us_7, us_8, us_9, us_10, us_11, rw_zero, rw_succ, Option.toList_some, Option.toList_none, List.cons_append, List.nil_append, cat_int, cat_ref, cat_null, iI_add, iI_sub, iI_mul, iI_neg, List.length_cons, List.length_nil, ↓reduceIte, va_rf_some, Int.reduceToNat, md_0, md_1, md_2, md_3, md_4, md_5, md_6, md_7, md_8, md_9, md_10, md_11, md_12, md_13, md_14, md_15, md_16, md_17, md_18, md_19, md_20, md_21, md_22, md_23, md_24, md_25, md_26, md_27, md_28, md_29, md_30, md_31, mu_0, mu_3, mu_7, mu_9, mu_12, mu_13, mu_14, mu_15, mu_16, mu_17, mu_18, mu_23, mu_24, mu_26, mu_27, mu_28, mu_29, iI_cl, upd_ne, b1]
    exact hmid (sm X.1) (hsB.trans e4.symm) _ (up1_same _ _ _) (fun a ha => by rw [up1_ne ha]; exact q3 a ha)
  · rw [if_neg c] at hsB
    rw [if_neg c]
    simp (disch := first | assumption | omega | exact isB_z | exact isB_o | exact iI_in' (by assumption) (by omega) (by omega) | exact cat_int _ | exact cat_ref _ | exact cat_null | decide) only [↓x_94_96, ↓x_94_97, ↓x_94_100, ↓x_94_101, ↓x_94_102, ↓x_94_105, ↓x_94_106, ↓x_94_109, ↓x_94_110, ↓x_94_111, ↓x_94_112, up1_same, up1_ne, up1_up1, us_0, us_1, us_2, us_3, us_4, us_5, us_6, us_7, us_8, us_9, us_10, us_11, rw_zero, rw_succ, Option.toList_some, Option.toList_none, List.cons_append, List.nil_append, cat_int, cat_ref, cat_null, iI_add, iI_sub, iI_mul, iI_neg, List.length_cons, List.length_nil, ↓reduceIte, va_rf_some, Int.reduceToNat, md_0, md_1, md_2, md_3, md_4, md_5, md_6, md_7, md_8, md_9, md_10, md_11, md_12, md_13, md_14, md_15, md_16, md_17, md_18, md_19, md_20, md_21, md_22, md_23, md_24, md_25, md_26, md_27, md_28, md_29, md_30, md_31, mu_0, mu_3, mu_7, mu_9, mu_12, mu_13, mu_14, mu_15, mu_16, mu_17, mu_18, mu_23, mu_24, mu_26, mu_27, mu_28, mu_29, iI_cl, upd_ne, b1]
    exact hmid (-sm X.1) (hsB.trans e4.symm) _ (up1_same _ _ _) (fun a ha => by rw [up1_ne ha]; exact q3 a ha)
end
