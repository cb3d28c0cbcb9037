/-! THE MODEL: evenest -/
theorem nn_b {n : Nat} (hn : n ≤ 6) : n ^ n ≤ 46656 := by
  have h : n = 0 ∨ n = 1 ∨ n = 2 ∨ n = 3 ∨ n = 4 ∨ n = 5 ∨ n = 6 := by omega
  rcases h with rfl | rfl | rfl | rfl | rfl | rfl | rfl <;> decide
theorem ryS_OK {ks : Nat → Int} : ∀ (l : List Int) (m : Int) (S : Int × wS), wOK m S.2 → (S.1 = -1 ∨ S.1 = 1) → wOK (m + 6 * l.length) (ryS ks l S).2 ∧ ((ryS ks l S).1 = -1 ∨ (ryS ks l S).1 = 1) := by
  intro l
  induction l with
  | nil => intro m S h1 h2; exact ⟨by simpa [ryS] using h1, h2⟩
  | cons a l ih =>
    intro m S h1 h2
    have := ih (m + 6) (tkG S (fD (ks a.toNat) S.1)).1 (tkG_OK _ h1) (tkG_s _ h2)
    rw [show m + 6 * ((a :: l).length : Int) = m + 6 + 6 * (l.length : Int) by simp; omega]
    exact this
section
variable {d : Nat} {t : mL} {V : Nat → Nat → Value} {A : Nat → Nat → Int32} {P : Nat → Nat → Option Nat} {μ : mM} {Q : Option Value → mM → Prop} {S : aS} {g : Nat → Int} {X : aW}
theorem codes_loop {n : Nat} {from' su bi ru mo c9 c10 : Value} (hn : n ≤ 6) (x6 : mo.category = 1) : ∀ (k i : Nat), i + k = n → Ev d 120 43 [.ref 62, .int (iI n), from', su, bi, ru, mo, .int (iI ((n ^ i : Nat) : Int)), .int (iI i), c9, c10] [] μ Q = Ev d 120 61 [.ref 62, .int (iI n), from', su, bi, ru, mo, .int (iI ((n ^ n : Nat) : Int)), .int (iI n), c9, c10] [] μ Q := by
  intro k
  induction k with
  | zero =>
    intro i hi
    have : i = n := by omega
    subst this
    have e : ¬ (i : Int) < i := by omega
    rw [x_120_43]
    simp (disch := first | assumption | omega | exact isB_z | exact isB_o | exact iI_in' (by assumption) (by omega) (by omega) | exact cat_int _ | exact cat_ref _ | exact cat_null | decide) only [↓x_120_45, ↓x_120_46, up1_same, up1_ne, up1_up1, us_0, us_1, us_2, us_3, us_4, us_5, us_6, us_7, us_8, us_9, us_10, us_11, rw_zero, rw_succ, Option.toList_some, Option.toList_none, List.cons_append, List.nil_append, cat_int, cat_ref, cat_null, iI_add, iI_sub, iI_mul, iI_neg, List.length_cons, List.length_nil, ↓reduceIte, va_rf_some, Int.reduceToNat, md_0, md_1, md_2, md_3, md_4, md_5, md_6, md_7, md_8, md_9, md_10, md_11, md_12, md_13, md_14, md_15, md_16, md_17, md_18, md_19, md_20, md_21, md_22, md_23, md_24, md_25, md_26, md_27, md_28, md_29, md_30, md_31, mu_0, mu_3, mu_7, mu_9, mu_12, mu_13, mu_14, mu_15, mu_16, mu_17, mu_18, mu_23, mu_24, mu_26, mu_27, mu_28, mu_29, i10, iI_eq, iI_lt, iI_cl, if_true, if_false, and_self, e]
  | succ k ih =>
    intro i hi
    have e : (i : Int) < n := by omega
    have ci : (i : Int) + 1 = ((i + 1 : Nat) : Int) := by omega
    have cp : ((n ^ i : Nat) : Int) * (n : Int) = ((n ^ (i + 1) : Nat) : Int) := by rw [Nat.pow_succ]; exact (Int.natCast_mul _ _).symm
    rw [← ih (i + 1) (by omega), x_120_43]
    simp (disch := first | assumption | omega | exact isB_z | exact isB_o | exact iI_in' (by assumption) (by omega) (by omega) | exact cat_int _ | exact cat_ref _ | exact cat_null | decide) only [↓x_120_45, ↓x_120_46, ↓x_120_49, ↓x_120_51, ↓x_120_52, ↓x_120_53, ↓x_120_55, ↓x_120_58, up1_same, up1_ne, up1_up1, us_0, us_1, us_2, us_3, us_4, us_5, us_6, us_7, us_8, us_9, us_10, us_11, rw_zero, rw_succ, Option.toList_some, Option.toList_none, List.cons_append, List.nil_append, cat_int, cat_ref, cat_null, iI_add, iI_sub, iI_mul, iI_neg, List.length_cons, List.length_nil, ↓reduceIte, va_rf_some, Int.reduceToNat, md_0, md_1, md_2, md_3, md_4, md_5, md_6, md_7, md_8, md_9, md_10, md_11, md_12, md_13, md_14, md_15, md_16, md_17, md_18, md_19, md_20, md_21, md_22, md_23, md_24, md_25, md_26, md_27, md_28, md_29, md_30, md_31, mu_0, mu_3, mu_7, mu_9, mu_12, mu_13, mu_14, mu_15, mu_16, mu_17, mu_18, mu_23, mu_24, mu_26, mu_27, mu_28, mu_29, i10, iI_eq, iI_lt, iI_cl, if_true, if_false, and_self, e, ci, cp]
set_option maxHeartbeats 400000 in
theorem words_loop {n : Nat} {l : List Int} {S0 : Int × wS} {g0 : Nat → Int} {a3 a4 a5 a6 a7 a8 a9 : Value} (hK : mK t) (hX : wf X) (hm : mH (A 63) X) (hn : n ≤ 6) (hl : n ≤ X.1.length) (hll : l.length = n) (hlb : ∀ j : Nat, j < n → 0 ≤ l.getD j 0 ∧ l.getD j 0 < n) (hrow : ∀ j : Nat, j < n → A 76 j = iI (l.getD j 0)) (hS0 : wOK (6 * (X.1.length - n : Nat)) S0.2) (hs0 : S0.1 = -1 ∨ S0.1 = 1) (x9 : a9.category = 1)
    (hQ : ∀ g' : Nat → Int, (∀ j, j < 26 ∨ 29 < j → g' j = g0 j) → tlS g' (ryS (lastK X n) l S0) → Ev (d + 5) 120 144 [.ref 62, .int (iI n), .int (iI (X.1.length - n : Nat)), a3, a4, a5, a6, a7, a8, a9, .int (iI n)] [] (t, up1 V 62 (mdR g'), A, P) Q) :
    ∀ (k q : Nat) (g : Nat → Int), q + k = n → (∀ j, j < 26 ∨ 29 < j → g j = g0 j) → tlS g (ryS (lastK X n) (l.take q) S0) → Ev (d + 5) 120 112 [.ref 62, .int (iI n), .int (iI (X.1.length - n : Nat)), a3, a4, a5, a6, a7, a8, a9, .int (iI q)] [] (t, up1 V 62 (mdR g), A, P) Q := by
  have hK' := hK
  obtain ⟨m0, ⟨m1, l1⟩, ⟨m2, l2⟩, ⟨m3, l3⟩, ⟨m4, l4⟩, ⟨m5, l5⟩, ⟨m6, l6⟩, ⟨m7, l7⟩, ⟨m8, l8⟩, ⟨m9, l9⟩, ⟨m10, l10⟩, ⟨m11, l11⟩, ⟨m12, l12⟩, ⟨m13, l13⟩, ⟨m14, l14⟩, m15, l15⟩ := hK
  have hX1 := hX.1
  intro k
  induction k with
  | zero =>
    intro q g hq hg hS
    have : q = n := by omega
    subst this
    have e : ¬ (q : Int) < q := by omega
    have ht : l.take q = l := by rw [← hll]; exact List.take_length
    rw [ht] at hS
    rw [x_120_112]
    simp (disch := first | assumption | omega | exact isB_z | exact isB_o | exact iI_in' (by assumption) (by omega) (by omega) | exact cat_int _ | exact cat_ref _ | exact cat_null | decide) only [↓x_120_114, ↓x_120_115, up1_same, up1_ne, up1_up1, us_0, us_1, us_2, us_3, us_4, us_5, us_6, us_7, us_8, us_9, us_10, us_11, rw_zero, rw_succ, Option.toList_some, Option.toList_none, List.cons_append, List.nil_append, cat_int, cat_ref, cat_null, iI_add, iI_sub, iI_mul, iI_neg, List.length_cons, List.length_nil, ↓reduceIte, va_rf_some, Int.reduceToNat, md_0, md_1, md_2, md_3, md_4, md_5, md_6, md_7, md_8, md_9, md_10, md_11, md_12, md_13, md_14, md_15, md_16, md_17, md_18, md_19, md_20, md_21, md_22, md_23, md_24, md_25, md_26, md_27, md_28, md_29, md_30, md_31, mu_0, mu_3, mu_7, mu_9, mu_12, mu_13, mu_14, mu_15, mu_16, mu_17, mu_18, mu_23, mu_24, mu_26, mu_27, mu_28, mu_29, i10, iI_eq, iI_lt, iI_cl, if_true, if_false, and_self, e]
    exact hQ g hg hS
  | succ k ih =>
    intro q g hq hg hS
    have e : (q : Int) < n := by omega
    have hlq := hlb q (by omega)
    have hr := hrow q (by omega)
    have tn1 : ((q : Nat) : Int).toNat = q := Int.toNat_natCast _
    have ci : (q : Int) + 1 = ((q + 1 : Nat) : Int) := by omega
    have tk := take_app l q (by omega)
    have hlen : (l.take q).length = q := by rw [List.length_take]; omega
    have hOK := ryS_OK (ks := lastK X n) (l.take q) _ S0 hS0 hs0
    rw [hlen] at hOK
    obtain ⟨r, hrd⟩ : ∃ r : Nat, l.getD q 0 = r := ⟨(l.getD q 0).toNat, by omega⟩
    rw [hrd] at hlq hr tk
    have tn2 : (4 + ((X.1.length - n : Nat) : Int) + (r : Int)).toNat = 4 + (X.1.length - n + r) := by omega
    have hw := hm.h4 (X.1.length - n + r) (by omega)
    have hkb := hX.2.2.1 (X.1.length - n + r) (by omega)
    rw [x_120_112]
    simp (disch := first | assumption | omega | exact isB_z | exact isB_o | exact iI_in' (by assumption) (by omega) (by omega) | exact cat_int _ | exact cat_ref _ | exact cat_null | decide) only [↓x_120_114, ↓x_120_115, ↓x_120_118, ↓x_120_119, ↓x_120_120, ↓x_120_123, ↓x_120_124, ↓x_120_125, ↓x_120_126, ↓x_120_127, ↓x_120_130, ↓x_120_132, ↓x_120_133, ↓x_120_134, up1_same, up1_ne, up1_up1, us_0, us_1, us_2, us_3, us_4, us_5, us_6, us_7, us_8, us_9, us_10, us_11, rw_zero, rw_succ, Option.toList_some, Option.toList_none, List.cons_append, List.nil_append, cat_int, cat_ref, cat_null, iI_add, iI_sub, iI_mul, iI_neg, List.length_cons, List.length_nil, ↓reduceIte, va_rf_some, Int.reduceToNat, md_0, md_1, md_2, md_3, md_4, md_5, md_6, md_7, md_8, md_9, md_10, md_11, md_12, md_13, md_14, md_15, md_16, md_17, md_18, md_19, md_20, md_21, md_22, md_23, md_24, md_25, md_26, md_27, md_28, md_29, md_30, md_31, mu_0, mu_3, mu_7, mu_9, mu_12, mu_13, mu_14, mu_15, mu_16, mu_17, mu_18, mu_23, mu_24, mu_26, mu_27, mu_28, mu_29, i10, iI_eq, iI_lt, iI_cl, if_true, if_false, and_self, e, tn1, hr, tn2, hw]
    simp (disch := first | assumption | omega | exact isB_z | exact isB_o | exact iI_in' (by assumption) (by omega) (by omega) | exact cat_int _ | exact cat_ref _ | exact cat_null | decide) only [↓x_120_135, up1_same, up1_ne, up1_up1, us_0, us_1, us_2, us_3, us_4, us_5, us_6, us_7, us_8, us_9, us_10, us_11, rw_zero, rw_succ, Option.toList_some, Option.toList_none, List.cons_append, List.nil_append, cat_int, cat_ref, cat_null, iI_add, iI_sub, iI_mul, iI_neg, List.length_cons, List.length_nil, ↓reduceIte, va_rf_some, Int.reduceToNat, md_0, md_1, md_2, md_3, md_4, md_5, md_6, md_7, md_8, md_9, md_10, md_11, md_12, md_13, md_14, md_15, md_16, md_17, md_18, md_19, md_20, md_21, md_22, md_23, md_24, md_25, md_26, md_27, md_28, md_29, md_30, md_31, mu_0, mu_3, mu_7, mu_9, mu_12, mu_13, mu_14, mu_15, mu_16, mu_17, mu_18, mu_23, mu_24, mu_26, mu_27, mu_28, mu_29]
    refine k_lengthens (m := 6 * (X.1.length - n : Nat) + 6 * (q : Int)) hK' hkb.1 hkb.2 hS hOK.1 (by omega) hOK.2 (fun g1 q1 q2 => ?_)
    simp (disch := first | assumption | omega | exact isB_z | exact isB_o | exact iI_in' (by assumption) (by omega) (by omega) | exact cat_int _ | exact cat_ref _ | exact cat_null | decide) only [↓x_120_138, ↓x_120_141, up1_same, up1_ne, up1_up1, us_0, us_1, us_2, us_3, us_4, us_5, us_6, us_7, us_8, us_9, us_10, us_11, rw_zero, rw_succ, Option.toList_some, Option.toList_none, List.cons_append, List.nil_append, cat_int, cat_ref, cat_null, iI_add, iI_sub, iI_mul, iI_neg, List.length_cons, List.length_nil, ↓reduceIte, va_rf_some, Int.reduceToNat, md_0, md_1, md_2, md_3, md_4, md_5, md_6, md_7, md_8, md_9, md_10, md_11, md_12, md_13, md_14, md_15, md_16, md_17, md_18, md_19, md_20, md_21, md_22, md_23, md_24, md_25, md_26, md_27, md_28, md_29, md_30, md_31, mu_0, mu_3, mu_7, mu_9, mu_12, mu_13, mu_14, mu_15, mu_16, mu_17, mu_18, mu_23, mu_24, mu_26, mu_27, mu_28, mu_29, i10, iI_eq, iI_lt, iI_cl, if_true, if_false, and_self, ci]
    refine ih (q + 1) g1 (by omega) (fun j hj => (q1 j hj).trans (hg j hj)) ?_
    rw [tk, ryS_app, Int.toNat_natCast]
    exact q2
theorem best_loop {n : Nat} {l : List Int} {L M : Int} {a2 a3 a4 a5 a6 a7 a9 : Value} {A0 : Nat → Nat → Int32} (hK : mK t) (hn : n ≤ 6) (hrow : ∀ j : Nat, j < n → A0 76 j = iI (l.getD j 0)) (h29 : g 29 = L) (hL : 0 ≤ L ∧ L ≤ 1000) (hM : 0 ≤ M ∧ M ≤ 1000) (hLM : L < M) (x9 : a9.category = 1)
    (hQ : ∀ (A' : Nat → Nat → Int32), (∀ j : Nat, j < n → A' 77 j = iI (l.getD j 0)) → (∀ a, a ≠ 77 → A' a = A0 a) → Ev d 120 182 [.ref 62, .int (iI n), a2, a3, a4, a5, a6, a7, .int (iI M), a9, .int (iI n)] [] (t, up1 V 62 (mdR g), A', P) Q) :
    ∀ (k q : Nat) (A : Nat → Nat → Int32), q + k = n → (∀ j : Nat, j < q → A 77 j = iI (l.getD j 0)) → (∀ a, a ≠ 77 → A a = A0 a) → Ev d 120 147 [.ref 62, .int (iI n), a2, a3, a4, a5, a6, a7, .int (iI M), a9, .int (iI q)] [] (t, up1 V 62 (mdR g), A, P) Q := by
  have hK' := hK
  obtain ⟨m0, ⟨m1, l1⟩, ⟨m2, l2⟩, ⟨m3, l3⟩, ⟨m4, l4⟩, ⟨m5, l5⟩, ⟨m6, l6⟩, ⟨m7, l7⟩, ⟨m8, l8⟩, ⟨m9, l9⟩, ⟨m10, l10⟩, ⟨m11, l11⟩, ⟨m12, l12⟩, ⟨m13, l13⟩, ⟨m14, l14⟩, m15, l15⟩ := hK
  intro k
  induction k with
  | zero =>
    intro q A hq hT hA
    have : q = n := by omega
    subst this
    have e : ¬ (q : Int) < q := by omega
    rw [x_120_147]
    simp (disch := first | assumption | omega | exact isB_z | exact isB_o | exact iI_in' (by assumption) (by omega) (by omega) | exact cat_int _ | exact cat_ref _ | exact cat_null | decide) only [↓x_120_149, ↓x_120_150, up1_same, up1_ne, up1_up1, us_0, us_1, us_2, us_3, us_4, us_5, us_6, us_7, us_8, us_9, us_10, us_11, rw_zero, rw_succ, Option.toList_some, Option.toList_none, List.cons_append, List.nil_append, cat_int, cat_ref, cat_null, iI_add, iI_sub, iI_mul, iI_neg, List.length_cons, List.length_nil, ↓reduceIte, va_rf_some, Int.reduceToNat, md_0, md_1, md_2, md_3, md_4, md_5, md_6, md_7, md_8, md_9, md_10, md_11, md_12, md_13, md_14, md_15, md_16, md_17, md_18, md_19, md_20, md_21, md_22, md_23, md_24, md_25, md_26, md_27, md_28, md_29, md_30, md_31, mu_0, mu_3, mu_7, mu_9, mu_12, mu_13, mu_14, mu_15, mu_16, mu_17, mu_18, mu_23, mu_24, mu_26, mu_27, mu_28, mu_29, i10, iI_eq, iI_lt, iI_cl, if_true, if_false, and_self, e]
    exact hQ A hT hA
  | succ k ih =>
    intro q A hq hT hA
    have e : (q : Int) < n := by omega
    have tn1 : ((q : Nat) : Int).toNat = q := Int.toNat_natCast _
    have ci : (q : Int) + 1 = ((q + 1 : Nat) : Int) := by omega
    have hr : A 76 q = iI (l.getD q 0) := by rw [hA 76 (by omega)]; exact hrow q (by omega)
    rw [x_120_147]
    simp (disch := first | assumption | omega | exact isB_z | exact isB_o | exact iI_in' (by assumption) (by omega) (by omega) | exact cat_int _ | exact cat_ref _ | exact cat_null | decide) only [↓x_120_149, ↓x_120_150, ↓x_120_153, ↓x_120_154, ↓x_120_157, ↓x_120_159, ↓x_120_162, ↓x_120_163, ↓x_120_166, ↓x_120_168, ↓x_120_169, ↓x_120_172, ↓x_120_174, ↓x_120_175, ↓x_120_176, ↓x_120_179, up1_same, up1_ne, up1_up1, us_0, us_1, us_2, us_3, us_4, us_5, us_6, us_7, us_8, us_9, us_10, us_11, rw_zero, rw_succ, Option.toList_some, Option.toList_none, List.cons_append, List.nil_append, cat_int, cat_ref, cat_null, iI_add, iI_sub, iI_mul, iI_neg, List.length_cons, List.length_nil, ↓reduceIte, va_rf_some, Int.reduceToNat, md_0, md_1, md_2, md_3, md_4, md_5, md_6, md_7, md_8, md_9, md_10, md_11, md_12, md_13, md_14, md_15, md_16, md_17, md_18, md_19, md_20, md_21, md_22, md_23, md_24, md_25, md_26, md_27, md_28, md_29, md_30, md_31, mu_0, mu_3, mu_7, mu_9, mu_12, mu_13, mu_14, mu_15, mu_16, mu_17, mu_18, mu_23, mu_24, mu_26, mu_27, mu_28, mu_29, i10, iI_eq, iI_lt, iI_cl, if_true, if_false, and_self, e, h29, hLM, tn1, hr, ci]
    refine ih (q + 1) _ (by omega) (fun j hj => ?_) (fun a ha => by rw [up1_ne ha]; exact hA a ha)
    rw [up1_same]
    by_cases c : j = q
    · subst c; rw [upd_same]
    · rw [upd_ne c]; exact hT j (by omega)
set_option maxHeartbeats 1000000 in
theorem code_loop {n : Nat} {E : (Nat → Int32) × Int} {g0 : Nat → Int} {A0 : Nat → Nat → Int32} (hK : mK t) (hX : wf X) (hm0 : mH (A0 63) X) (hn0 : 0 < n) (hn : n ≤ 6) (hl : n ≤ X.1.length) {S0 : Int × wS} (hS0d : S0 = wkG (sntG X) (-1) (X.1.length - n))
    (hQ : ∀ (g' : Nat → Int) (A' : Nat → Nat → Int32), (∀ j, j < 26 ∨ 29 < j → g' j = g0 j) → (∀ a, a ≠ 76 → a ≠ 77 → A' a = A0 a) → (∀ i : Nat, i < n → A' 77 i = E.1 i) → Q (some (.int (iI E.2))) (t, up1 V 62 (mdR g'), A', P)) :
    ∀ (k c : Nat) (g : Nat → Int) (A : Nat → Nat → Int32) (B : (Nat → Int32) × Int) (x10 : Value), c + k = n ^ n → forI (stepC n (lastK X n) S0) c k B = E → (∀ i : Nat, i < n → A 77 i = B.1 i) → 0 ≤ B.2 → B.2 ≤ 1000 → (∀ j, j < 26 ∨ 29 < j → g j = g0 j) → (∀ a, a ≠ 76 → a ≠ 77 → A a = A0 a) → x10.category = 1 → Ev (d + 5) 120 69 [.ref 62, .int (iI n), .int (iI (X.1.length - n : Nat)), .int (iI S0.1), .int (iI S0.2.2.1), .int (iI S0.2.2.2.1), .int (iI S0.2.2.2.2), .int (iI ((n ^ n : Nat) : Int)), .int (iI B.2), .int (iI c), x10] [] (t, up1 V 62 (mdR g), A, P) Q := by
  have hK' := hK
  obtain ⟨m0, ⟨m1, l1⟩, ⟨m2, l2⟩, ⟨m3, l3⟩, ⟨m4, l4⟩, ⟨m5, l5⟩, ⟨m6, l6⟩, ⟨m7, l7⟩, ⟨m8, l8⟩, ⟨m9, l9⟩, ⟨m10, l10⟩, ⟨m11, l11⟩, ⟨m12, l12⟩, ⟨m13, l13⟩, ⟨m14, l14⟩, m15, l15⟩ := hK
  have hX1 := hX.1
  have hnn := nn_b hn
  have hS0 : wOK (6 * (X.1.length - n : Nat)) S0.2 := by rw [hS0d]; exact wkG_OK _ (Or.inl rfl) _
  have hs0 : S0.1 = -1 ∨ S0.1 = 1 := by rw [hS0d]; exact wkG_s _ (Or.inl rfl) _
  intro k
  induction k with
  | zero =>
    intro c g A B x10 hc hE hB b0 b1 hg hA _
    have hE' : B = E := hE
    subst hE'
    have e : ¬ (c : Int) < ((n ^ n : Nat) : Int) := by omega
    rw [x_120_69]
    simp (disch := first | assumption | omega | exact isB_z | exact isB_o | exact iI_in' (by assumption) (by omega) (by omega) | exact cat_int _ | exact cat_ref _ | exact cat_null | decide) only [↓x_120_71, ↓x_120_73, ↓x_120_208, ↓x_120_210, up1_same, up1_ne, up1_up1, us_0, us_1, us_2, us_3, us_4, us_5, us_6, us_7, us_8, us_9, us_10, us_11, rw_zero, rw_succ, Option.toList_some, Option.toList_none, List.cons_append, List.nil_append, cat_int, cat_ref, cat_null, iI_add, iI_sub, iI_mul, iI_neg, List.length_cons, List.length_nil, ↓reduceIte, va_rf_some, Int.reduceToNat, md_0, md_1, md_2, md_3, md_4, md_5, md_6, md_7, md_8, md_9, md_10, md_11, md_12, md_13, md_14, md_15, md_16, md_17, md_18, md_19, md_20, md_21, md_22, md_23, md_24, md_25, md_26, md_27, md_28, md_29, md_30, md_31, mu_0, mu_3, mu_7, mu_9, mu_12, mu_13, mu_14, mu_15, mu_16, mu_17, mu_18, mu_23, mu_24, mu_26, mu_27, mu_28, mu_29, i10, iI_eq, iI_lt, iI_cl, if_true, if_false, and_self, e]
    exact hQ g A hg hA hB
  | succ k ih =>
    intro c g A B x10 hc hE hB b0 b1 hg hA hx10
    have e : (c : Int) < ((n ^ n : Nat) : Int) := by omega
    have ci : (c : Int) + 1 = ((c + 1 : Nat) : Int) := by omega
    have hE' : forI (stepC n (lastK X n) S0) (c + 1) k (stepC n (lastK X n) S0 c B) = E := hE
    have hlen := digs_len n n c
    have hdb := digs_b hn0 n c
    have hOK := ryS_OK (ks := lastK X n) (digs n n c) _ S0 hS0 hs0
    rw [hlen] at hOK
    rw [x_120_69]
    simp (disch := first | assumption | omega | exact isB_z | exact isB_o | exact iI_in' (by assumption) (by omega) (by omega) | exact cat_int _ | exact cat_ref _ | exact cat_null | decide) only [↓x_120_71, ↓x_120_73, ↓x_120_76, ↓x_120_77, ↓x_120_79, up1_same, up1_ne, up1_up1, us_0, us_1, us_2, us_3, us_4, us_5, us_6, us_7, us_8, us_9, us_10, us_11, rw_zero, rw_succ, Option.toList_some, Option.toList_none, List.cons_append, List.nil_append, cat_int, cat_ref, cat_null, iI_add, iI_sub, iI_mul, iI_neg, List.length_cons, List.length_nil, ↓reduceIte, va_rf_some, Int.reduceToNat, md_0, md_1, md_2, md_3, md_4, md_5, md_6, md_7, md_8, md_9, md_10, md_11, md_12, md_13, md_14, md_15, md_16, md_17, md_18, md_19, md_20, md_21, md_22, md_23, md_24, md_25, md_26, md_27, md_28, md_29, md_30, md_31, mu_0, mu_3, mu_7, mu_9, mu_12, mu_13, mu_14, mu_15, mu_16, mu_17, mu_18, mu_23, mu_24, mu_26, mu_27, mu_28, mu_29, i10, iI_eq, iI_lt, iI_cl, if_true, if_false, and_self, e]
    simp (disch := first | assumption | omega | exact isB_z | exact isB_o | exact iI_in' (by assumption) (by omega) (by omega) | exact cat_int _ | exact cat_ref _ | exact cat_null | decide) only [↓x_120_80, up1_same, up1_ne, up1_up1, us_0, us_1, us_2, us_3, us_4, us_5, us_6, us_7, us_8, us_9, us_10, us_11, rw_zero, rw_succ, Option.toList_some, Option.toList_none, List.cons_append, List.nil_append, cat_int, cat_ref, cat_null, iI_add, iI_sub, iI_mul, iI_neg, List.length_cons, List.length_nil, ↓reduceIte, va_rf_some, Int.reduceToNat, md_0, md_1, md_2, md_3, md_4, md_5, md_6, md_7, md_8, md_9, md_10, md_11, md_12, md_13, md_14, md_15, md_16, md_17, md_18, md_19, md_20, md_21, md_22, md_23, md_24, md_25, md_26, md_27, md_28, md_29, md_30, md_31, mu_0, mu_3, mu_7, mu_9, mu_12, mu_13, mu_14, mu_15, mu_16, mu_17, mu_18, mu_23, mu_24, mu_26, mu_27, mu_28, mu_29]
    refine k_isOrder hK' hn0 hn (by omega) (fun A1 q1 q2 => ?_)
    have hA1 : ∀ a, a ≠ 76 → a ≠ 77 → A1 a = A0 a := fun a h1 h2 => (q2 a h1).trans (hA a h1 h2)
    have hB1 : ∀ i : Nat, i < n → A1 77 i = B.1 i := fun i hi => by rw [q2 77 (by omega)]; exact hB i hi
    by_cases z : mkL 0 (digs n n c) = 2 ^ n - 1
    · have hst : stepC n (lastK X n) S0 c B = if (ryS (lastK X n) (digs n n c) S0).2.2.2.2 < B.2 then ((fun i => iI ((digs n n c).getD i 0)), (ryS (lastK X n) (digs n n c) S0).2.2.2.2) else B := by unfold stepC; rw [if_pos z]
      rw [hst] at hE'
      rw [if_pos z]
      simp (disch := first | assumption | omega | exact isB_z | exact isB_o | exact iI_in' (by assumption) (by omega) (by omega) | exact cat_int _ | exact cat_ref _ | exact cat_null | decide) only [↓x_120_83, ↓x_120_86, ↓x_120_87, ↓x_120_88, ↓x_120_91, ↓x_120_92, ↓x_120_94, ↓x_120_97, ↓x_120_98, ↓x_120_100, ↓x_120_103, ↓x_120_104, ↓x_120_106, ↓x_120_109, ↓x_120_110, up1_same, up1_ne, up1_up1, us_0, us_1, us_2, us_3, us_4, us_5, us_6, us_7, us_8, us_9, us_10, us_11, rw_zero, rw_succ, Option.toList_some, Option.toList_none, List.cons_append, List.nil_append, cat_int, cat_ref, cat_null, iI_add, iI_sub, iI_mul, iI_neg, List.length_cons, List.length_nil, ↓reduceIte, va_rf_some, Int.reduceToNat, md_0, md_1, md_2, md_3, md_4, md_5, md_6, md_7, md_8, md_9, md_10, md_11, md_12, md_13, md_14, md_15, md_16, md_17, md_18, md_19, md_20, md_21, md_22, md_23, md_24, md_25, md_26, md_27, md_28, md_29, md_30, md_31, mu_0, mu_3, mu_7, mu_9, mu_12, mu_13, mu_14, mu_15, mu_16, mu_17, mu_18, mu_23, mu_24, mu_26, mu_27, mu_28, mu_29, i10, iI_eq, iI_lt, iI_cl, if_true, if_false, and_self]
      generalize digs n n c = l at *
      obtain ⟨T, hT⟩ : ∃ T, T = ryS (lastK X n) l S0 := ⟨_, rfl⟩
      have w7 := hOK.1.2.2.2.2.2.2.1
      have w8 := hOK.1.2.2.2.2.2.2.2
      have hws := words_loop (d := d) (t := t) (V := V) (P := P) (Q := Q) (A := A1) (n := n) (l := l) (S0 := S0) (g0 := g0) (a3 := .int (iI S0.1)) (a4 := .int (iI S0.2.2.1)) (a5 := .int (iI S0.2.2.2.1)) (a6 := .int (iI S0.2.2.2.2)) (a7 := .int (iI ((n ^ n : Nat) : Int))) (a8 := .int (iI B.2)) (a9 := .int (iI c)) hK' hX (by rw [hA1 63 (by omega) (by omega)]; exact hm0) hn hl hlen hdb q1 hS0 hs0 rfl
      refine hws (fun g2 r1 r2 => ?_) n 0 _ (by omega) (fun j hj => by rw [up1_ne (by omega), up1_ne (by omega), up1_ne (by omega), up1_ne (by omega)]; exact hg j hj) ⟨?_, ?_, ?_, ?_⟩
      · obtain ⟨t26, t27, t28, t29⟩ := r2
        rw [← hT] at t29 hE' w7 w8
        clear hws hst
        simp (disch := first | assumption | omega | exact isB_z | exact isB_o | exact iI_in' (by assumption) (by omega) (by omega) | exact cat_int _ | exact cat_ref _ | exact cat_null | decide) only [↓x_120_144, ↓x_120_145, up1_same, up1_ne, up1_up1, us_0, us_1, us_2, us_3, us_4, us_5, us_6, us_7, us_8, us_9, us_10, us_11, rw_zero, rw_succ, Option.toList_some, Option.toList_none, List.cons_append, List.nil_append, cat_int, cat_ref, cat_null, iI_add, iI_sub, iI_mul, iI_neg, List.length_cons, List.length_nil, ↓reduceIte, va_rf_some, Int.reduceToNat, md_0, md_1, md_2, md_3, md_4, md_5, md_6, md_7, md_8, md_9, md_10, md_11, md_12, md_13, md_14, md_15, md_16, md_17, md_18, md_19, md_20, md_21, md_22, md_23, md_24, md_25, md_26, md_27, md_28, md_29, md_30, md_31, mu_0, mu_3, mu_7, mu_9, mu_12, mu_13, mu_14, mu_15, mu_16, mu_17, mu_18, mu_23, mu_24, mu_26, mu_27, mu_28, mu_29]
        by_cases z2 : T.2.2.2.2 < B.2
        · rw [if_pos z2] at hE'
          refine best_loop (d := d + 5) (l := l) (L := T.2.2.2.2) (M := B.2) (A0 := A1) hK' hn q1 t29 (by omega) (by omega) z2 rfl (fun A2 s1 s2 => ?_) n 0 A1 (by omega) (fun j hj => absurd hj (by omega)) (fun _ _ => rfl)
          simp (disch := first | assumption | omega | exact isB_z | exact isB_o | exact iI_in' (by assumption) (by omega) (by omega) | exact cat_int _ | exact cat_ref _ | exact cat_null | decide) only [↓x_120_182, ↓x_120_183, ↓x_120_186, ↓x_120_188, ↓x_120_191, ↓x_120_192, ↓x_120_195, ↓x_120_198, ↓x_120_200, ↓x_120_202, ↓x_120_205, up1_same, up1_ne, up1_up1, us_0, us_1, us_2, us_3, us_4, us_5, us_6, us_7, us_8, us_9, us_10, us_11, rw_zero, rw_succ, Option.toList_some, Option.toList_none, List.cons_append, List.nil_append, cat_int, cat_ref, cat_null, iI_add, iI_sub, iI_mul, iI_neg, List.length_cons, List.length_nil, ↓reduceIte, va_rf_some, Int.reduceToNat, md_0, md_1, md_2, md_3, md_4, md_5, md_6, md_7, md_8, md_9, md_10, md_11, md_12, md_13, md_14, md_15, md_16, md_17, md_18, md_19, md_20, md_21, md_22, md_23, md_24, md_25, md_26, md_27, md_28, md_29, md_30, md_31, mu_0, mu_3, mu_7, mu_9, mu_12, mu_13, mu_14, mu_15, mu_16, mu_17, mu_18, mu_23, mu_24, mu_26, mu_27, mu_28, mu_29, i10, iI_eq, iI_lt, iI_cl, if_true, if_false, and_self, t29, z2, ci]
          exact ih (c + 1) g2 A2 ((fun i => iI (l.getD i 0)), T.2.2.2.2) _ (by omega) hE' s1 (by omega) (by simp only; omega) r1 (fun a h1 h2 => (s2 a h2).trans (hA1 a h1 h2)) rfl
        · rw [if_neg z2] at hE'
          have hnz : (0 : Int) < (n : Int) := by omega
          rw [x_120_147]
          simp (disch := first | assumption | omega | exact isB_z | exact isB_o | exact iI_in' (by assumption) (by omega) (by omega) | exact cat_int _ | exact cat_ref _ | exact cat_null | decide) only [↓x_120_149, ↓x_120_150, ↓x_120_153, ↓x_120_154, ↓x_120_157, ↓x_120_159, ↓x_120_182, ↓x_120_183, ↓x_120_186, ↓x_120_188, ↓x_120_191, ↓x_120_192, ↓x_120_195, ↓x_120_198, ↓x_120_200, ↓x_120_202, ↓x_120_205, up1_same, up1_ne, up1_up1, us_0, us_1, us_2, us_3, us_4, us_5, us_6, us_7, us_8, us_9, us_10, us_11, rw_zero, rw_succ, Option.toList_some, Option.toList_none, List.cons_append, List.nil_append, cat_int, cat_ref, cat_null, iI_add, iI_sub, iI_mul, iI_neg, List.length_cons, List.length_nil, ↓reduceIte, va_rf_some, Int.reduceToNat, md_0, md_1, md_2, md_3, md_4, md_5, md_6, md_7, md_8, md_9, md_10, md_11, md_12, md_13, md_14, md_15, md_16, md_17, md_18, md_19, md_20, md_21, md_22, md_23, md_24, md_25, md_26, md_27, md_28, md_29, md_30, md_31, mu_0, mu_3, mu_7, mu_9, mu_12, mu_13, mu_14, mu_15, mu_16, mu_17, mu_18, mu_23, mu_24, mu_26, mu_27, mu_28, mu_29, i10, iI_eq, iI_lt, iI_cl, if_true, if_false, and_self, t29, z2, hnz, ci]
          exact ih (c + 1) g2 A1 B _ (by omega) hE' hB1 b0 b1 r1 hA1 rfl
      · rw [up1_ne (by omega), up1_ne (by omega), up1_ne (by omega), up1_same]; rfl
      · rw [up1_ne (by omega), up1_ne (by omega), up1_same]; rfl
      · rw [up1_ne (by omega), up1_same]; rfl
      · rw [up1_same]; rfl
    · have hst : stepC n (lastK X n) S0 c B = B := by unfold stepC; rw [if_neg z]
      rw [hst] at hE'
      rw [if_neg z]
      simp (disch := first | assumption | omega | exact isB_z | exact isB_o | exact iI_in' (by assumption) (by omega) (by omega) | exact cat_int _ | exact cat_ref _ | exact cat_null | decide) only [↓x_120_83, ↓x_120_202, ↓x_120_205, up1_same, up1_ne, up1_up1, us_0, us_1, us_2, us_3, us_4, us_5, us_6, us_7, us_8, us_9, us_10, us_11, rw_zero, rw_succ, Option.toList_some, Option.toList_none, List.cons_append, List.nil_append, cat_int, cat_ref, cat_null, iI_add, iI_sub, iI_mul, iI_neg, List.length_cons, List.length_nil, ↓reduceIte, va_rf_some, Int.reduceToNat, md_0, md_1, md_2, md_3, md_4, md_5, md_6, md_7, md_8, md_9, md_10, md_11, md_12, md_13, md_14, md_15, md_16, md_17, md_18, md_19, md_20, md_21, md_22, md_23, md_24, md_25, md_26, md_27, md_28, md_29, md_30, md_31, mu_0, mu_3, mu_7, mu_9, mu_12, mu_13, mu_14, mu_15, mu_16, mu_17, mu_18, mu_23, mu_24, mu_26, mu_27, mu_28, mu_29, i10, iI_eq, iI_lt, iI_cl, if_true, if_false, and_self, ci]
      exact ih (c + 1) g A1 B x10 (by omega) hE' hB1 b0 b1 hg hA1 hx10
theorem k_evenestOf {n : Nat} (hK : mK t) (hX : wf X) (hm : mH (A 63) X) (hn0 : 0 < n) (hn : n ≤ 6) (hl : n ≤ X.1.length) (hQ : ∀ (g' : Nat → Int) (A' : Nat → Nat → Int32), (∀ j, j < 26 ∨ 29 < j → g' j = g j) → (∀ a, a ≠ 76 → a ≠ 77 → A' a = A a) → (∀ i : Nat, i < n → A' 77 i = (srcF X n (A 77)).1 i) → Q (some (.int (iI (srcF X n (A 77)).2))) (t, up1 V 62 (mdR g'), A', P)) : Call (d + 6) 120 [.ref 62, .int (iI n)] (t, up1 V 62 (mdR g), A, P) Q := by
  have hK' := hK
  obtain ⟨m0, ⟨m1, l1⟩, ⟨m2, l2⟩, ⟨m3, l3⟩, ⟨m4, l4⟩, ⟨m5, l5⟩, ⟨m6, l6⟩, ⟨m7, l7⟩, ⟨m8, l8⟩, ⟨m9, l9⟩, ⟨m10, l10⟩, ⟨m11, l11⟩, ⟨m12, l12⟩, ⟨m13, l13⟩, ⟨m14, l14⟩, m15, l15⟩ := hK
  have hX1 := hX.1
  have a0 := hm.h0
  have e : (X.1.length : Int) - n = ((X.1.length - n : Nat) : Int) := by omega
  simp (disch := first | assumption | omega | exact isB_z | exact isB_o | exact iI_in' (by assumption) (by omega) (by omega) | exact cat_int _ | exact cat_ref _ | exact cat_null | decide) only [c_120, ↓x_120_0, ↓x_120_1, ↓x_120_4, ↓x_120_5, ↓x_120_6, ↓x_120_7, ↓x_120_8, ↓x_120_9, ↓x_120_10, up1_same, up1_ne, up1_up1, us_0, us_1, us_2, us_3, us_4, us_5, us_6, us_7, us_8, us_9, us_10, us_11, rw_zero, rw_succ, Option.toList_some, Option.toList_none, List.cons_append, List.nil_append, cat_int, cat_ref, cat_null, iI_add, iI_sub, iI_mul, iI_neg, List.length_cons, List.length_nil, ↓reduceIte, va_rf_some, Int.reduceToNat, md_0, md_1, md_2, md_3, md_4, md_5, md_6, md_7, md_8, md_9, md_10, md_11, md_12, md_13, md_14, md_15, md_16, md_17, md_18, md_19, md_20, md_21, md_22, md_23, md_24, md_25, md_26, md_27, md_28, md_29, md_30, md_31, mu_0, mu_3, mu_7, mu_9, mu_12, mu_13, mu_14, mu_15, mu_16, mu_17, mu_18, mu_23, mu_24, mu_26, mu_27, mu_28, mu_29, i10, iI_eq, iI_lt, iI_cl, if_true, if_false, and_self, a0, e]
  simp (disch := first | assumption | omega | exact isB_z | exact isB_o | exact iI_in' (by assumption) (by omega) (by omega) | exact cat_int _ | exact cat_ref _ | exact cat_null | decide) only [↓x_120_11, up1_same, up1_ne, up1_up1, us_0, us_1, us_2, us_3, us_4, us_5, us_6, us_7, us_8, us_9, us_10, us_11, rw_zero, rw_succ, Option.toList_some, Option.toList_none, List.cons_append, List.nil_append, cat_int, cat_ref, cat_null, iI_add, iI_sub, iI_mul, iI_neg, List.length_cons, List.length_nil, ↓reduceIte, va_rf_some, Int.reduceToNat, md_0, md_1, md_2, md_3, md_4, md_5, md_6, md_7, md_8, md_9, md_10, md_11, md_12, md_13, md_14, md_15, md_16, md_17, md_18, md_19, md_20, md_21, md_22, md_23, md_24, md_25, md_26, md_27, md_28, md_29, md_30, md_31, mu_0, mu_3, mu_7, mu_9, mu_12, mu_13, mu_14, mu_15, mu_16, mu_17, mu_18, mu_23, mu_24, mu_26, mu_27, mu_28, mu_29]
  refine k_laysAhead hK' hX hm (by omega) (fun g1 q1 q2 => ?_)
  obtain ⟨t26, t27, t28, t29⟩ := q2
  simp (disch := first | assumption | omega | exact isB_z | exact isB_o | exact iI_in' (by assumption) (by omega) (by omega) | exact cat_int _ | exact cat_ref _ | exact cat_null | decide) only [↓x_120_14, ↓x_120_15, ↓x_120_18, ↓x_120_19, ↓x_120_20, ↓x_120_23, ↓x_120_25, ↓x_120_26, ↓x_120_29, ↓x_120_31, ↓x_120_32, ↓x_120_35, ↓x_120_37, ↓x_120_38, ↓x_120_40, ↓x_120_41, up1_same, up1_ne, up1_up1, us_0, us_1, us_2, us_3, us_4, us_5, us_6, us_7, us_8, us_9, us_10, us_11, rw_zero, rw_succ, Option.toList_some, Option.toList_none, List.cons_append, List.nil_append, cat_int, cat_ref, cat_null, iI_add, iI_sub, iI_mul, iI_neg, List.length_cons, List.length_nil, ↓reduceIte, va_rf_some, Int.reduceToNat, md_0, md_1, md_2, md_3, md_4, md_5, md_6, md_7, md_8, md_9, md_10, md_11, md_12, md_13, md_14, md_15, md_16, md_17, md_18, md_19, md_20, md_21, md_22, md_23, md_24, md_25, md_26, md_27, md_28, md_29, md_30, md_31, mu_0, mu_3, mu_7, mu_9, mu_12, mu_13, mu_14, mu_15, mu_16, mu_17, mu_18, mu_23, mu_24, mu_26, mu_27, mu_28, mu_29, i10, iI_eq, iI_lt, iI_cl, if_true, if_false, and_self, t26, t27, t28, t29]
  have hcl := codes_loop (d := d + 5) (μ := (t, up1 V 62 (mdR g1), A, P)) (Q := Q) (n := n) (from' := .int (iI ((X.1.length - n : Nat) : Int))) (su := .int (iI (wkG (sntG X) (-1) (X.1.length - n)).1)) (bi := .int (iI (wkG (sntG X) (-1) (X.1.length - n)).2.2.1)) (ru := .int (iI (wkG (sntG X) (-1) (X.1.length - n)).2.2.2.1)) (mo := .int (iI (wkG (sntG X) (-1) (X.1.length - n)).2.2.2.2)) (c9 := .null) (c10 := .null) hn rfl n 0 (by omega)
  rw [Nat.pow_zero] at hcl
  refine Eq.mpr hcl ?_
  simp (disch := first | assumption | omega | exact isB_z | exact isB_o | exact iI_in' (by assumption) (by omega) (by omega) | exact cat_int _ | exact cat_ref _ | exact cat_null | decide) only [↓x_120_61, ↓x_120_64, ↓x_120_66, ↓x_120_67, up1_same, up1_ne, up1_up1, us_0, us_1, us_2, us_3, us_4, us_5, us_6, us_7, us_8, us_9, us_10, us_11, rw_zero, rw_succ, Option.toList_some, Option.toList_none, List.cons_append, List.nil_append, cat_int, cat_ref, cat_null, iI_add, iI_sub, iI_mul, iI_neg, List.length_cons, List.length_nil, ↓reduceIte, va_rf_some, Int.reduceToNat, md_0, md_1, md_2, md_3, md_4, md_5, md_6, md_7, md_8, md_9, md_10, md_11, md_12, md_13, md_14, md_15, md_16, md_17, md_18, md_19, md_20, md_21, md_22, md_23, md_24, md_25, md_26, md_27, md_28, md_29, md_30, md_31, mu_0, mu_3, mu_7, mu_9, mu_12, mu_13, mu_14, mu_15, mu_16, mu_17, mu_18, mu_23, mu_24, mu_26, mu_27, mu_28, mu_29]
  exact code_loop (d := d) (g0 := g) (A0 := A) (S0 := wkG (sntG X) (-1) (X.1.length - n)) hK' hX hm hn0 hn hl rfl hQ (n ^ n) 0 g1 A (A 77, 1000) _ (by omega) (src_codes hn (A 77)).symm (fun _ _ => rfl) (by simp only; omega) (by simp only; omega) q1 (fun _ _ _ => rfl) rfl
theorem km_evenest {n i : Int} (b : Nat → Int32) (hK : mK t) (hS : wfS S) (h : RM g A S) (h1 : -2147483648 ≤ n ∧ n < 2147483648) (h2 : -2147483648 ≤ i ∧ i < 2147483648) (hQ : ∀ (g' : Nat → Int) (A' : Nat → Nat → Int32), RM g' A' S → (∀ a, a < 62 → A' a = A a) → Q (some (.int (aEven S.X b n i))) (t, up1 V 62 (mdR g'), A', P)) : Call (d + 7) 121 [.ref 62, .int (iI n), .int (iI i)] (t, up1 V 62 (mdR g), A, P) Q := by
  have hK' := hK
  obtain ⟨m0, ⟨m1, l1⟩, ⟨m2, l2⟩, ⟨m3, l3⟩, ⟨m4, l4⟩, ⟨m5, l5⟩, ⟨m6, l6⟩, ⟨m7, l7⟩, ⟨m8, l8⟩, ⟨m9, l9⟩, ⟨m10, l10⟩, ⟨m11, l11⟩, ⟨m12, l12⟩, ⟨m13, l13⟩, ⟨m14, l14⟩, m15, l15⟩ := hK
  have hX1 := hS.wo.1
  have a0 := h.wi.h0
  rw [aEven_ind hS.wo b (A 77)] at hQ
  unfold aEven at hQ
  by_cases c : 1 ≤ n ∧ n ≤ 6
  · by_cases c2 : i < -1
    · rw [if_pos (Or.inr (Or.inr c2))] at hQ
      simp (disch := first | assumption | omega | exact isB_z | exact isB_o | exact iI_in' (by assumption) (by omega) (by omega) | exact cat_int _ | exact cat_ref _ | exact cat_null | decide) only [c_121, ↓x_121_0, ↓x_121_1, ↓x_121_2, ↓x_121_5, ↓x_121_6, ↓x_121_7, ↓x_121_9, ↓x_121_12, ↓x_121_15, ↓x_121_16, ↓x_121_17, ↓x_121_20, ↓x_121_21, up1_same, up1_ne, up1_up1, us_0, us_1, us_2, us_3, us_4, us_5, us_6, us_7, us_8, us_9, us_10, us_11, rw_zero, rw_succ, Option.toList_some, Option.toList_none, List.cons_append, List.nil_append, cat_int, cat_ref, cat_null, iI_add, iI_sub, iI_mul, iI_neg, List.length_cons, List.length_nil, ↓reduceIte, va_rf_some, Int.reduceToNat, md_0, md_1, md_2, md_3, md_4, md_5, md_6, md_7, md_8, md_9, md_10, md_11, md_12, md_13, md_14, md_15, md_16, md_17, md_18, md_19, md_20, md_21, md_22, md_23, md_24, md_25, md_26, md_27, md_28, md_29, md_30, md_31, mu_0, mu_3, mu_7, mu_9, mu_12, mu_13, mu_14, mu_15, mu_16, mu_17, mu_18, mu_23, mu_24, mu_26, mu_27, mu_28, mu_29, i10, iI_eq, iI_lt, iI_cl, if_true, if_false, and_self, k_in, c, c2]
      exact hQ _ A h.th (fun _ _ => rfl)
    · rw [if_neg (by omega)] at hQ
      by_cases c3 : (S.X.1.length : Int) < n
      · rw [if_pos c3] at hQ
        simp (disch := first | assumption | omega | exact isB_z | exact isB_o | exact iI_in' (by assumption) (by omega) (by omega) | exact cat_int _ | exact cat_ref _ | exact cat_null | decide) only [c_121, ↓x_121_0, ↓x_121_1, ↓x_121_2, ↓x_121_5, ↓x_121_6, ↓x_121_7, ↓x_121_9, ↓x_121_12, ↓x_121_15, ↓x_121_16, ↓x_121_17, ↓x_121_20, ↓x_121_21, ↓x_121_22, ↓x_121_23, ↓x_121_26, ↓x_121_27, ↓x_121_28, ↓x_121_29, ↓x_121_32, ↓x_121_34, up1_same, up1_ne, up1_up1, us_0, us_1, us_2, us_3, us_4, us_5, us_6, us_7, us_8, us_9, us_10, us_11, rw_zero, rw_succ, Option.toList_some, Option.toList_none, List.cons_append, List.nil_append, cat_int, cat_ref, cat_null, iI_add, iI_sub, iI_mul, iI_neg, List.length_cons, List.length_nil, ↓reduceIte, va_rf_some, Int.reduceToNat, md_0, md_1, md_2, md_3, md_4, md_5, md_6, md_7, md_8, md_9, md_10, md_11, md_12, md_13, md_14, md_15, md_16, md_17, md_18, md_19, md_20, md_21, md_22, md_23, md_24, md_25, md_26, md_27, md_28, md_29, md_30, md_31, mu_0, mu_3, mu_7, mu_9, mu_12, mu_13, mu_14, mu_15, mu_16, mu_17, mu_18, mu_23, mu_24, mu_26, mu_27, mu_28, mu_29, i10, iI_eq, iI_lt, iI_cl, if_true, if_false, and_self, k_in, c, c2, a0, c3]
        exact hQ _ A h.th (fun _ _ => rfl)
      · rw [if_neg c3] at hQ
        obtain ⟨m, hm⟩ : ∃ m : Nat, n = m := ⟨n.toNat, by omega⟩
        subst hm
        rw [Int.toNat_natCast] at hQ
        simp (disch := first | assumption | omega | exact isB_z | exact isB_o | exact iI_in' (by assumption) (by omega) (by omega) | exact cat_int _ | exact cat_ref _ | exact cat_null | decide) only [c_121, ↓x_121_0, ↓x_121_1, ↓x_121_2, ↓x_121_5, ↓x_121_6, ↓x_121_7, ↓x_121_9, ↓x_121_12, ↓x_121_15, ↓x_121_16, ↓x_121_17, ↓x_121_20, ↓x_121_21, ↓x_121_22, ↓x_121_23, ↓x_121_26, ↓x_121_27, ↓x_121_28, ↓x_121_29, ↓x_121_32, ↓x_121_34, ↓x_121_35, ↓x_121_36, up1_same, up1_ne, up1_up1, us_0, us_1, us_2, us_3, us_4, us_5, us_6, us_7, us_8, us_9, us_10, us_11, rw_zero, rw_succ, Option.toList_some, Option.toList_none, List.cons_append, List.nil_append, cat_int, cat_ref, cat_null, iI_add, iI_sub, iI_mul, iI_neg, List.length_cons, List.length_nil, ↓reduceIte, va_rf_some, Int.reduceToNat, md_0, md_1, md_2, md_3, md_4, md_5, md_6, md_7, md_8, md_9, md_10, md_11, md_12, md_13, md_14, md_15, md_16, md_17, md_18, md_19, md_20, md_21, md_22, md_23, md_24, md_25, md_26, md_27, md_28, md_29, md_30, md_31, mu_0, mu_3, mu_7, mu_9, mu_12, mu_13, mu_14, mu_15, mu_16, mu_17, mu_18, mu_23, mu_24, mu_26, mu_27, mu_28, mu_29, i10, iI_eq, iI_lt, iI_cl, if_true, if_false, and_self, k_in, c, c2, a0, c3]
        simp (disch := first | assumption | omega | exact isB_z | exact isB_o | exact iI_in' (by assumption) (by omega) (by omega) | exact cat_int _ | exact cat_ref _ | exact cat_null | decide) only [↓x_121_37, up1_same, up1_ne, up1_up1, us_0, us_1, us_2, us_3, us_4, us_5, us_6, us_7, us_8, us_9, us_10, us_11, rw_zero, rw_succ, Option.toList_some, Option.toList_none, List.cons_append, List.nil_append, cat_int, cat_ref, cat_null, iI_add, iI_sub, iI_mul, iI_neg, List.length_cons, List.length_nil, ↓reduceIte, va_rf_some, Int.reduceToNat, md_0, md_1, md_2, md_3, md_4, md_5, md_6, md_7, md_8, md_9, md_10, md_11, md_12, md_13, md_14, md_15, md_16, md_17, md_18, md_19, md_20, md_21, md_22, md_23, md_24, md_25, md_26, md_27, md_28, md_29, md_30, md_31, mu_0, mu_3, mu_7, mu_9, mu_12, mu_13, mu_14, mu_15, mu_16, mu_17, mu_18, mu_23, mu_24, mu_26, mu_27, mu_28, mu_29]
        refine k_evenestOf hK' hS.wo h.wi (by omega) (by omega) (by omega) (fun g' A' q1 q2 q3 => ?_)
        have r1 : RM g' A' S := h.th.keep' (q1 3 (by omega)) (q1 7 (by omega)) (q1 12 (by omega)) (fun a _ _ _ => q2 a (by omega) (by omega))
        have q2' : ∀ a, a < 62 → A' a = A a := fun a ha => q2 a (by omega) (by omega)
        by_cases c4 : i = -1
        · rw [if_neg (by omega), if_pos c4] at hQ
          simp (disch := first | assumption | omega | exact isB_z | exact isB_o | exact iI_in' (by assumption) (by omega) (by omega) | exact cat_int _ | exact cat_ref _ | exact cat_null | decide) only [↓x_121_40, ↓x_121_41, ↓x_121_42, ↓x_121_43, ↓x_121_46, ↓x_121_47, ↓x_121_66, up1_same, up1_ne, up1_up1, us_0, us_1, us_2, us_3, us_4, us_5, us_6, us_7, us_8, us_9, us_10, us_11, rw_zero, rw_succ, Option.toList_some, Option.toList_none, List.cons_append, List.nil_append, cat_int, cat_ref, cat_null, iI_add, iI_sub, iI_mul, iI_neg, List.length_cons, List.length_nil, ↓reduceIte, va_rf_some, Int.reduceToNat, md_0, md_1, md_2, md_3, md_4, md_5, md_6, md_7, md_8, md_9, md_10, md_11, md_12, md_13, md_14, md_15, md_16, md_17, md_18, md_19, md_20, md_21, md_22, md_23, md_24, md_25, md_26, md_27, md_28, md_29, md_30, md_31, mu_0, mu_3, mu_7, mu_9, mu_12, mu_13, mu_14, mu_15, mu_16, mu_17, mu_18, mu_23, mu_24, mu_26, mu_27, mu_28, mu_29, i10, iI_eq, iI_lt, iI_cl, if_true, if_false, and_self, c4]
          exact hQ g' A' r1 q2'
        · by_cases c5 : i < m
          · rw [if_neg (by omega), if_neg c4] at hQ
            have q3i := q3 i.toNat (by omega)
            simp (disch := first | assumption | omega | exact isB_z | exact isB_o | exact iI_in' (by assumption) (by omega) (by omega) | exact cat_int _ | exact cat_ref _ | exact cat_null | decide) only [↓x_121_40, ↓x_121_41, ↓x_121_42, ↓x_121_43, ↓x_121_46, ↓x_121_47, ↓x_121_50, ↓x_121_51, ↓x_121_52, ↓x_121_55, ↓x_121_56, ↓x_121_59, ↓x_121_60, ↓x_121_61, ↓x_121_64, ↓x_121_66, up1_same, up1_ne, up1_up1, us_0, us_1, us_2, us_3, us_4, us_5, us_6, us_7, us_8, us_9, us_10, us_11, rw_zero, rw_succ, Option.toList_some, Option.toList_none, List.cons_append, List.nil_append, cat_int, cat_ref, cat_null, iI_add, iI_sub, iI_mul, iI_neg, List.length_cons, List.length_nil, ↓reduceIte, va_rf_some, Int.reduceToNat, md_0, md_1, md_2, md_3, md_4, md_5, md_6, md_7, md_8, md_9, md_10, md_11, md_12, md_13, md_14, md_15, md_16, md_17, md_18, md_19, md_20, md_21, md_22, md_23, md_24, md_25, md_26, md_27, md_28, md_29, md_30, md_31, mu_0, mu_3, mu_7, mu_9, mu_12, mu_13, mu_14, mu_15, mu_16, mu_17, mu_18, mu_23, mu_24, mu_26, mu_27, mu_28, mu_29, i10, iI_eq, iI_lt, iI_cl, if_true, if_false, and_self, c4, c5, q3i]
            exact hQ g' A' r1 q2'
          · rw [if_pos (by omega)] at hQ
            simp (disch := first | assumption | omega | exact isB_z | exact isB_o | exact iI_in' (by assumption) (by omega) (by omega) | exact cat_int _ | exact cat_ref _ | exact cat_null | decide) only [↓x_121_40, ↓x_121_41, ↓x_121_42, ↓x_121_43, ↓x_121_46, ↓x_121_47, ↓x_121_50, ↓x_121_51, ↓x_121_52, ↓x_121_55, ↓x_121_56, ↓x_121_59, ↓x_121_60, ↓x_121_61, ↓x_121_64, ↓x_121_66, up1_same, up1_ne, up1_up1, us_0, us_1, us_2, us_3, us_4, us_5, us_6, us_7, us_8, us_9, us_10, us_11, rw_zero, rw_succ, Option.toList_some, Option.toList_none, List.cons_append, List.nil_append, cat_int, cat_ref, cat_null, iI_add, iI_sub, iI_mul, iI_neg, List.length_cons, List.length_nil, ↓reduceIte, va_rf_some, Int.reduceToNat, md_0, md_1, md_2, md_3, md_4, md_5, md_6, md_7, md_8, md_9, md_10, md_11, md_12, md_13, md_14, md_15, md_16, md_17, md_18, md_19, md_20, md_21, md_22, md_23, md_24, md_25, md_26, md_27, md_28, md_29, md_30, md_31, mu_0, mu_3, mu_7, mu_9, mu_12, mu_13, mu_14, mu_15, mu_16, mu_17, mu_18, mu_23, mu_24, mu_26, mu_27, mu_28, mu_29, i10, iI_eq, iI_lt, iI_cl, if_true, if_false, and_self, c4, c5]
            exact hQ g' A' r1 q2'
  · rw [if_pos (by omega)] at hQ
    simp (disch := first | assumption | omega | exact isB_z | exact isB_o | exact iI_in' (by assumption) (by omega) (by omega) | exact cat_int _ | exact cat_ref _ | exact cat_null | decide) only [c_121, ↓x_121_0, ↓x_121_1, ↓x_121_2, ↓x_121_5, ↓x_121_6, ↓x_121_7, ↓x_121_9, ↓x_121_12, ↓x_121_15, ↓x_121_16, ↓x_121_17, ↓x_121_20, ↓x_121_21, up1_same, up1_ne, up1_up1, us_0, us_1, us_2, us_3, us_4, us_5, us_6, us_7, us_8, us_9, us_10, us_11, rw_zero, rw_succ, Option.toList_some, Option.toList_none, List.cons_append, List.nil_append, cat_int, cat_ref, cat_null, iI_add, iI_sub, iI_mul, iI_neg, List.length_cons, List.length_nil, ↓reduceIte, va_rf_some, Int.reduceToNat, md_0, md_1, md_2, md_3, md_4, md_5, md_6, md_7, md_8, md_9, md_10, md_11, md_12, md_13, md_14, md_15, md_16, md_17, md_18, md_19, md_20, md_21, md_22, md_23, md_24, md_25, md_26, md_27, md_28, md_29, md_30, md_31, mu_0, mu_3, mu_7, mu_9, mu_12, mu_13, mu_14, mu_15, mu_16, mu_17, mu_18, mu_23, mu_24, mu_26, mu_27, mu_28, mu_29, i10, iI_eq, iI_lt, iI_cl, if_true, if_false, and_self, k_in, c]
    exact hQ _ A h.th (fun _ _ => rfl)
end
