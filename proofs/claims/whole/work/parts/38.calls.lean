/-! THE MODEL: its plain calls -/
theorem i10 : ((1 : Int) = 0) = False := by simp
theorem RM.wire {g : Nat → Int} {A A' : Nat → Nat → Int32} {S : aS} {X' : aW} (h : RM g A S) (hw : mH (A' 63) X') (hA : ∀ a, a ≠ 63 → A' a = A a) : RM g A' (aS.mk X' S.U S.I S.T) := by
  refine ⟨hw, h.um, fun i hi => ?_, fun i hi => imM_eq (h.im i hi) (hA 65 (by omega)) (hA 66 (by omega)), h.ty, fun i hi => by rw [hA 67 (by omega)]; exact h.tx i hi, ?_⟩
  · rw [hA 64 (by omega)]; exact h.ew i hi
  · rcases h.la with q | ⟨q, q2⟩
    · exact Or.inl q
    · exact Or.inr ⟨q, tabL_eq q2 (hA 69 (by omega)) (hA 70 (by omega))⟩
theorem tnb_tab : ∀ j : Nat, j < 6 → ∀ i : Nat, i < 6 → ∀ n : Nat, n < 64 → tn n j / 2 ^ i % 2 = if i = j then 1 - (n : Int) / 2 ^ j % 2 else (n : Int) / 2 ^ i % 2 := by decide +kernel
theorem tnb {n : Int} {i j : Nat} (h0 : 0 ≤ n) (h1 : n < 64) (hj : j < 6) (hi : i < 6) : tn n j / 2 ^ i % 2 = if i = j then 1 - n / 2 ^ j % 2 else n / 2 ^ i % 2 := by
  have := tnb_tab j hj i hi n.toNat (by omega)
  rwa [Int.toNat_of_nonneg h0] at this
/-- a bit turned, seen bit by bit -/
theorem btA_tX {X : aW} {b c : Int} (hX : wf X) (b0 : 0 ≤ b) (b1 : b < X.1.length * 6) (c0 : 0 ≤ c) (c1 : c < X.1.length * 6) : btA (tX X b).2 c = if c = b then 1 - btA X.2 b else btA X.2 c := by
  obtain ⟨x1, x2, x3, x4⟩ := hX
  have hv := x4 (b / 6).toNat (by omega)
  unfold btA tX
  simp only
  rw [gset]
  by_cases e : (c / 6).toNat = (b / 6).toNat
  · rw [if_pos ⟨e, by omega⟩, tnb hv.1 hv.2 (by omega) (by omega), e]
    by_cases e2 : c = b
    · subst e2; rw [if_pos rfl, if_pos rfl]
    · rw [if_neg (by omega), if_neg e2]
  · rw [if_neg (fun q => e q.1), if_neg (fun q => e (by rw [q]))]
theorem rcF_9 : ∀ (l : List Int) (r : Int × Int), (∀ i : Nat, i < l.length → 0 ≤ l.getD i 0 ∧ l.getD i 0 < 34) → (r.2 = -9 → r.1 = -9) → (rcF r l).2 = -9 → (rcF r l).1 = -9 := by
  intro l
  induction l with
  | nil => intro r _ h; exact h
  | cons k l ih =>
    intro r h hr
    have hk := h 0 (by simp)
    simp at hk
    refine ih _ (fun j hj => by simpa using h (j + 1) (by simp; omega)) ?_
    split
    · intro q; simp only at q; omega
    · exact hr
theorem rc_9 {X : aW} (hX : wf X) : (rc X.1).2 = -9 → (rc X.1).1 = -9 := rcF_9 _ _ hX.2.2.1 (fun _ => rfl)
section
variable {d : Nat} {t : mL} {V : Nat → Nat → Value} {A : Nat → Nat → Int32} {P : Nat → Nat → Option Nat} {μ : mM} {Q : Option Value → mM → Prop} {S : aS} {g : Nat → Int}
theorem km_sends {k : Int} (hK : mK t) (hS : wfS S) (h : RM g A S) (h1 : -2147483648 ≤ k ∧ k < 2147483648) (hQ : hqM t V A P Q (aSends S k)) : Call (d + 5) 95 [.ref 62, .int (iI k)] (t, up1 V 62 (mdR g), A, P) Q := by
  have hK' := hK
  obtain ⟨m0, ⟨m1, l1⟩, ⟨m2, l2⟩, ⟨m3, l3⟩, ⟨m4, l4⟩, ⟨m5, l5⟩, ⟨m6, l6⟩, ⟨m7, l7⟩, ⟨m8, l8⟩, ⟨m9, l9⟩, ⟨m10, l10⟩, ⟨m11, l11⟩, ⟨m12, l12⟩, ⟨m13, l13⟩, ⟨m14, l14⟩, m15, l15⟩ := hK
  have a0 := h.wi.h0
  have hX := hS.wo.1
  unfold aSends at hQ
  by_cases c : 0 ≤ k ∧ k ≤ 30
  · rw [if_neg (by omega)] at hQ
    unfold aSend at hQ
    by_cases c2 : 32 ≤ S.X.1.length
    · rw [if_pos c2] at hQ
      have e : (S.X.1.length : Int) = 32 := by omega
      simp (disch := first | assumption | omega | exact isB_z | exact isB_o | exact iI_in' (by assumption) (by omega) (by omega) | exact cat_int _ | exact cat_ref _ | exact cat_null | decide) only [c_95, ↓x_95_0, ↓x_95_1, ↓x_95_2, ↓x_95_5, ↓x_95_6, ↓x_95_7, ↓x_95_9, ↓x_95_12, ↓x_95_15, ↓x_95_16, ↓x_95_17, ↓x_95_18, ↓x_95_21, ↓x_95_22, ↓x_95_23, ↓x_95_25, ↓x_95_28, ↓x_95_30, up1_same, up1_ne, up1_up1, us_0, us_1, us_2, us_3, us_4, us_5, us_6, us_7, us_8, us_9, us_10, us_11, rw_zero, rw_succ, Option.toList_some, Option.toList_none, List.cons_append, List.nil_append, cat_int, cat_ref, cat_null, iI_add, iI_sub, iI_mul, iI_neg, List.length_cons, List.length_nil, ↓reduceIte, va_rf_some, Int.reduceToNat, md_0, md_1, md_2, md_3, md_4, md_5, md_6, md_7, md_8, md_9, md_10, md_11, md_12, md_13, md_14, md_15, md_16, md_17, md_18, md_19, md_20, md_21, md_22, md_23, md_24, md_25, md_26, md_27, md_28, md_29, md_30, md_31, mu_0, mu_3, mu_7, mu_9, mu_12, mu_13, mu_14, mu_15, mu_16, mu_17, mu_18, mu_23, mu_24, mu_26, mu_27, mu_28, mu_29, i10, iI_eq, iI_lt, iI_cl, if_true, if_false, and_self, k_in, c, a0, e]
      exact hQ _ A h.th (fun _ _ => rfl)
    · rw [if_neg c2] at hQ
      have e : ¬ (S.X.1.length : Int) = 32 := by omega
      simp (disch := first | assumption | omega | exact isB_z | exact isB_o | exact iI_in' (by assumption) (by omega) (by omega) | exact cat_int _ | exact cat_ref _ | exact cat_null | decide) only [c_95, ↓x_95_0, ↓x_95_1, ↓x_95_2, ↓x_95_5, ↓x_95_6, ↓x_95_7, ↓x_95_9, ↓x_95_12, ↓x_95_15, ↓x_95_16, ↓x_95_17, ↓x_95_18, ↓x_95_21, ↓x_95_22, ↓x_95_23, ↓x_95_25, ↓x_95_28, ↓x_95_30, ↓x_95_31, ↓x_95_32, up1_same, up1_ne, up1_up1, us_0, us_1, us_2, us_3, us_4, us_5, us_6, us_7, us_8, us_9, us_10, us_11, rw_zero, rw_succ, Option.toList_some, Option.toList_none, List.cons_append, List.nil_append, cat_int, cat_ref, cat_null, iI_add, iI_sub, iI_mul, iI_neg, List.length_cons, List.length_nil, ↓reduceIte, va_rf_some, Int.reduceToNat, md_0, md_1, md_2, md_3, md_4, md_5, md_6, md_7, md_8, md_9, md_10, md_11, md_12, md_13, md_14, md_15, md_16, md_17, md_18, md_19, md_20, md_21, md_22, md_23, md_24, md_25, md_26, md_27, md_28, md_29, md_30, md_31, mu_0, mu_3, mu_7, mu_9, mu_12, mu_13, mu_14, mu_15, mu_16, mu_17, mu_18, mu_23, mu_24, mu_26, mu_27, mu_28, mu_29, i10, iI_eq, iI_lt, iI_cl, if_true, if_false, and_self, k_in, c, a0, e]
      refine k_notes hK' hS h.th (fun n A1 r1 r2 => ?_)
      simp (disch := first | assumption | omega | exact isB_z | exact isB_o | exact iI_in' (by assumption) (by omega) (by omega) | exact cat_int _ | exact cat_ref _ | exact cat_null | decide) only [↓x_95_35, ↓x_95_36, ↓x_95_37, up1_same, up1_ne, up1_up1, us_0, us_1, us_2, us_3, us_4, us_5, us_6, us_7, us_8, us_9, us_10, us_11, rw_zero, rw_succ, Option.toList_some, Option.toList_none, List.cons_append, List.nil_append, cat_int, cat_ref, cat_null, iI_add, iI_sub, iI_mul, iI_neg, List.length_cons, List.length_nil, ↓reduceIte, va_rf_some, Int.reduceToNat, md_0, md_1, md_2, md_3, md_4, md_5, md_6, md_7, md_8, md_9, md_10, md_11, md_12, md_13, md_14, md_15, md_16, md_17, md_18, md_19, md_20, md_21, md_22, md_23, md_24, md_25, md_26, md_27, md_28, md_29, md_30, md_31, mu_0, mu_3, mu_7, mu_9, mu_12, mu_13, mu_14, mu_15, mu_16, mu_17, mu_18, mu_23, mu_24, mu_26, mu_27, mu_28, mu_29]
      refine k_sent hK' hS.wo r1.wi (by omega) (by omega) (by omega) (fun A2 q1 q2 => ?_)
      simp (disch := first | assumption | omega | exact isB_z | exact isB_o | exact iI_in' (by assumption) (by omega) (by omega) | exact cat_int _ | exact cat_ref _ | exact cat_null | decide) only [↓x_95_40, up1_same, up1_ne, up1_up1, us_0, us_1, us_2, us_3, us_4, us_5, us_6, us_7, us_8, us_9, us_10, us_11, rw_zero, rw_succ, Option.toList_some, Option.toList_none, List.cons_append, List.nil_append, cat_int, cat_ref, cat_null, iI_add, iI_sub, iI_mul, iI_neg, List.length_cons, List.length_nil, ↓reduceIte, va_rf_some, Int.reduceToNat, md_0, md_1, md_2, md_3, md_4, md_5, md_6, md_7, md_8, md_9, md_10, md_11, md_12, md_13, md_14, md_15, md_16, md_17, md_18, md_19, md_20, md_21, md_22, md_23, md_24, md_25, md_26, md_27, md_28, md_29, md_30, md_31, mu_0, mu_3, mu_7, mu_9, mu_12, mu_13, mu_14, mu_15, mu_16, mu_17, mu_18, mu_23, mu_24, mu_26, mu_27, mu_28, mu_29]
      exact hQ _ A2 (r1.wire q1 q2) (fun a ha => (q2 a (by omega)).trans (r2 a (by omega)))
  · rw [if_pos (by omega)] at hQ
    simp (disch := first | assumption | omega | exact isB_z | exact isB_o | exact iI_in' (by assumption) (by omega) (by omega) | exact cat_int _ | exact cat_ref _ | exact cat_null | decide) only [c_95, ↓x_95_0, ↓x_95_1, ↓x_95_2, ↓x_95_5, ↓x_95_6, ↓x_95_7, ↓x_95_9, ↓x_95_12, ↓x_95_15, ↓x_95_16, up1_same, up1_ne, up1_up1, us_0, us_1, us_2, us_3, us_4, us_5, us_6, us_7, us_8, us_9, us_10, us_11, rw_zero, rw_succ, Option.toList_some, Option.toList_none, List.cons_append, List.nil_append, cat_int, cat_ref, cat_null, iI_add, iI_sub, iI_mul, iI_neg, List.length_cons, List.length_nil, ↓reduceIte, va_rf_some, Int.reduceToNat, md_0, md_1, md_2, md_3, md_4, md_5, md_6, md_7, md_8, md_9, md_10, md_11, md_12, md_13, md_14, md_15, md_16, md_17, md_18, md_19, md_20, md_21, md_22, md_23, md_24, md_25, md_26, md_27, md_28, md_29, md_30, md_31, mu_0, mu_3, mu_7, mu_9, mu_12, mu_13, mu_14, mu_15, mu_16, mu_17, mu_18, mu_23, mu_24, mu_26, mu_27, mu_28, mu_29, i10, iI_eq, iI_lt, iI_cl, if_true, if_false, and_self, k_in, c]
    exact hQ _ A h.th (fun _ _ => rfl)
theorem km_marks {k : Int} (hK : mK t) (hS : wfS S) (h : RM g A S) (h1 : -2147483648 ≤ k ∧ k < 2147483648) (hQ : hqM t V A P Q (aMarks S k)) : Call (d + 5) 96 [.ref 62, .int (iI k)] (t, up1 V 62 (mdR g), A, P) Q := by
  have hK' := hK
  obtain ⟨m0, ⟨m1, l1⟩, ⟨m2, l2⟩, ⟨m3, l3⟩, ⟨m4, l4⟩, ⟨m5, l5⟩, ⟨m6, l6⟩, ⟨m7, l7⟩, ⟨m8, l8⟩, ⟨m9, l9⟩, ⟨m10, l10⟩, ⟨m11, l11⟩, ⟨m12, l12⟩, ⟨m13, l13⟩, ⟨m14, l14⟩, m15, l15⟩ := hK
  have a0 := h.wi.h0
  have hX := hS.wo.1
  unfold aMarks at hQ
  by_cases c : 0 ≤ k ∧ k ≤ 2
  · rw [if_neg (by omega)] at hQ
    unfold aSend at hQ
    by_cases c2 : 32 ≤ S.X.1.length
    · rw [if_pos c2] at hQ
      have e : (S.X.1.length : Int) = 32 := by omega
      simp (disch := first | assumption | omega | exact isB_z | exact isB_o | exact iI_in' (by assumption) (by omega) (by omega) | exact cat_int _ | exact cat_ref _ | exact cat_null | decide) only [c_96, ↓x_96_0, ↓x_96_1, ↓x_96_2, ↓x_96_5, ↓x_96_6, ↓x_96_7, ↓x_96_8, ↓x_96_11, ↓x_96_14, ↓x_96_15, ↓x_96_16, ↓x_96_17, ↓x_96_20, ↓x_96_21, ↓x_96_22, ↓x_96_24, ↓x_96_27, ↓x_96_29, up1_same, up1_ne, up1_up1, us_0, us_1, us_2, us_3, us_4, us_5, us_6, us_7, us_8, us_9, us_10, us_11, rw_zero, rw_succ, Option.toList_some, Option.toList_none, List.cons_append, List.nil_append, cat_int, cat_ref, cat_null, iI_add, iI_sub, iI_mul, iI_neg, List.length_cons, List.length_nil, ↓reduceIte, va_rf_some, Int.reduceToNat, md_0, md_1, md_2, md_3, md_4, md_5, md_6, md_7, md_8, md_9, md_10, md_11, md_12, md_13, md_14, md_15, md_16, md_17, md_18, md_19, md_20, md_21, md_22, md_23, md_24, md_25, md_26, md_27, md_28, md_29, md_30, md_31, mu_0, mu_3, mu_7, mu_9, mu_12, mu_13, mu_14, mu_15, mu_16, mu_17, mu_18, mu_23, mu_24, mu_26, mu_27, mu_28, mu_29, i10, iI_eq, iI_lt, iI_cl, if_true, if_false, and_self, k_in, c, a0, e]
      exact hQ _ A h.th (fun _ _ => rfl)
    · rw [if_neg c2] at hQ
      have e : ¬ (S.X.1.length : Int) = 32 := by omega
      simp (disch := first | assumption | omega | exact isB_z | exact isB_o | exact iI_in' (by assumption) (by omega) (by omega) | exact cat_int _ | exact cat_ref _ | exact cat_null | decide) only [c_96, ↓x_96_0, ↓x_96_1, ↓x_96_2, ↓x_96_5, ↓x_96_6, ↓x_96_7, ↓x_96_8, ↓x_96_11, ↓x_96_14, ↓x_96_15, ↓x_96_16, ↓x_96_17, ↓x_96_20, ↓x_96_21, ↓x_96_22, ↓x_96_24, ↓x_96_27, ↓x_96_29, ↓x_96_30, ↓x_96_31, up1_same, up1_ne, up1_up1, us_0, us_1, us_2, us_3, us_4, us_5, us_6, us_7, us_8, us_9, us_10, us_11, rw_zero, rw_succ, Option.toList_some, Option.toList_none, List.cons_append, List.nil_append, cat_int, cat_ref, cat_null, iI_add, iI_sub, iI_mul, iI_neg, List.length_cons, List.length_nil, ↓reduceIte, va_rf_some, Int.reduceToNat, md_0, md_1, md_2, md_3, md_4, md_5, md_6, md_7, md_8, md_9, md_10, md_11, md_12, md_13, md_14, md_15, md_16, md_17, md_18, md_19, md_20, md_21, md_22, md_23, md_24, md_25, md_26, md_27, md_28, md_29, md_30, md_31, mu_0, mu_3, mu_7, mu_9, mu_12, mu_13, mu_14, mu_15, mu_16, mu_17, mu_18, mu_23, mu_24, mu_26, mu_27, mu_28, mu_29, i10, iI_eq, iI_lt, iI_cl, if_true, if_false, and_self, k_in, c, a0, e]
      refine k_notes hK' hS h.th (fun n A1 r1 r2 => ?_)
      simp (disch := first | assumption | omega | exact isB_z | exact isB_o | exact iI_in' (by assumption) (by omega) (by omega) | exact cat_int _ | exact cat_ref _ | exact cat_null | decide) only [↓x_96_34, ↓x_96_35, ↓x_96_37, ↓x_96_38, ↓x_96_39, up1_same, up1_ne, up1_up1, us_0, us_1, us_2, us_3, us_4, us_5, us_6, us_7, us_8, us_9, us_10, us_11, rw_zero, rw_succ, Option.toList_some, Option.toList_none, List.cons_append, List.nil_append, cat_int, cat_ref, cat_null, iI_add, iI_sub, iI_mul, iI_neg, List.length_cons, List.length_nil, ↓reduceIte, va_rf_some, Int.reduceToNat, md_0, md_1, md_2, md_3, md_4, md_5, md_6, md_7, md_8, md_9, md_10, md_11, md_12, md_13, md_14, md_15, md_16, md_17, md_18, md_19, md_20, md_21, md_22, md_23, md_24, md_25, md_26, md_27, md_28, md_29, md_30, md_31, mu_0, mu_3, mu_7, mu_9, mu_12, mu_13, mu_14, mu_15, mu_16, mu_17, mu_18, mu_23, mu_24, mu_26, mu_27, mu_28, mu_29]
      refine k_sent hK' hS.wo r1.wi (by omega) (by omega) (by omega) (fun A2 q1 q2 => ?_)
      simp (disch := first | assumption | omega | exact isB_z | exact isB_o | exact iI_in' (by assumption) (by omega) (by omega) | exact cat_int _ | exact cat_ref _ | exact cat_null | decide) only [↓x_96_42, up1_same, up1_ne, up1_up1, us_0, us_1, us_2, us_3, us_4, us_5, us_6, us_7, us_8, us_9, us_10, us_11, rw_zero, rw_succ, Option.toList_some, Option.toList_none, List.cons_append, List.nil_append, cat_int, cat_ref, cat_null, iI_add, iI_sub, iI_mul, iI_neg, List.length_cons, List.length_nil, ↓reduceIte, va_rf_some, Int.reduceToNat, md_0, md_1, md_2, md_3, md_4, md_5, md_6, md_7, md_8, md_9, md_10, md_11, md_12, md_13, md_14, md_15, md_16, md_17, md_18, md_19, md_20, md_21, md_22, md_23, md_24, md_25, md_26, md_27, md_28, md_29, md_30, md_31, mu_0, mu_3, mu_7, mu_9, mu_12, mu_13, mu_14, mu_15, mu_16, mu_17, mu_18, mu_23, mu_24, mu_26, mu_27, mu_28, mu_29]
      exact hQ _ A2 (r1.wire q1 q2) (fun a ha => (q2 a (by omega)).trans (r2 a (by omega)))
  · rw [if_pos (by omega)] at hQ
    simp (disch := first | assumption | omega | exact isB_z | exact isB_o | exact iI_in' (by assumption) (by omega) (by omega) | exact cat_int _ | exact cat_ref _ | exact cat_null | decide) only [c_96, ↓x_96_0, ↓x_96_1, ↓x_96_2, ↓x_96_5, ↓x_96_6, ↓x_96_7, ↓x_96_8, ↓x_96_11, ↓x_96_14, ↓x_96_15, up1_same, up1_ne, up1_up1, us_0, us_1, us_2, us_3, us_4, us_5, us_6, us_7, us_8, us_9, us_10, us_11, rw_zero, rw_succ, Option.toList_some, Option.toList_none, List.cons_append, List.nil_append, cat_int, cat_ref, cat_null, iI_add, iI_sub, iI_mul, iI_neg, List.length_cons, List.length_nil, ↓reduceIte, va_rf_some, Int.reduceToNat, md_0, md_1, md_2, md_3, md_4, md_5, md_6, md_7, md_8, md_9, md_10, md_11, md_12, md_13, md_14, md_15, md_16, md_17, md_18, md_19, md_20, md_21, md_22, md_23, md_24, md_25, md_26, md_27, md_28, md_29, md_30, md_31, mu_0, mu_3, mu_7, mu_9, mu_12, mu_13, mu_14, mu_15, mu_16, mu_17, mu_18, mu_23, mu_24, mu_26, mu_27, mu_28, mu_29, i10, iI_eq, iI_lt, iI_cl, if_true, if_false, and_self, k_in, c]
    exact hQ _ A h.th (fun _ _ => rfl)
theorem k_isBit {b : Int} {n : Nat} (hK : mK t) (a0 : A 63 0 = iI n) (hn : n ≤ 32) (h1 : -2147483648 ≤ b ∧ b < 2147483648) : Call (d + 2) 97 [.ref 62, .int (iI b)] (t, up1 V 62 (mdR g), A, P) Q = Q (some (.int (iI (if 0 ≤ b ∧ b < n * 6 then 1 else 0)))) (t, up1 V 62 (mdR g), A, P) := by
  obtain ⟨m0, ⟨m1, l1⟩, ⟨m2, l2⟩, ⟨m3, l3⟩, ⟨m4, l4⟩, ⟨m5, l5⟩, ⟨m6, l6⟩, ⟨m7, l7⟩, ⟨m8, l8⟩, ⟨m9, l9⟩, ⟨m10, l10⟩, ⟨m11, l11⟩, ⟨m12, l12⟩, ⟨m13, l13⟩, ⟨m14, l14⟩, m15, l15⟩ := hK
  simp (disch := first | assumption | omega | exact isB_z | exact isB_o | exact iI_in' (by assumption) (by omega) (by omega) | exact cat_int _ | exact cat_ref _ | exact cat_null | decide) only [c_97, ↓x_97_0, ↓x_97_1, ↓x_97_2, ↓x_97_4, ↓x_97_5, ↓x_97_8, ↓x_97_9, ↓x_97_10, ↓x_97_11, ↓x_97_12, ↓x_97_13, up1_same, up1_ne, up1_up1, us_0, us_1, us_2, us_3, us_4, us_5, us_6, us_7, us_8, us_9, us_10, us_11, rw_zero, rw_succ, Option.toList_some, Option.toList_none, List.cons_append, List.nil_append, cat_int, cat_ref, cat_null, iI_add, iI_sub, iI_mul, iI_neg, List.length_cons, List.length_nil, ↓reduceIte, va_rf_some, Int.reduceToNat, md_0, md_1, md_2, md_3, md_4, md_5, md_6, md_7, md_8, md_9, md_10, md_11, md_12, md_13, md_14, md_15, md_16, md_17, md_18, md_19, md_20, md_21, md_22, md_23, md_24, md_25, md_26, md_27, md_28, md_29, md_30, md_31, mu_0, mu_3, mu_7, mu_9, mu_12, mu_13, mu_14, mu_15, mu_16, mu_17, mu_18, mu_23, mu_24, mu_26, mu_27, mu_28, mu_29, iI_cl, a0, k_in]
  by_cases c : 0 ≤ b ∧ b < n * 6
  · have e : 0 ≤ b ∧ b ≤ 6 * (n : Int) - 1 := by omega
    rw [if_pos c, if_pos e]
    simp (disch := first | assumption | omega | exact isB_z | exact isB_o | exact iI_in' (by assumption) (by omega) (by omega) | exact cat_int _ | exact cat_ref _ | exact cat_null | decide) only [↓x_97_16, up1_same, up1_ne, up1_up1, us_0, us_1, us_2, us_3, us_4, us_5, us_6, us_7, us_8, us_9, us_10, us_11, rw_zero, rw_succ, Option.toList_some, Option.toList_none, List.cons_append, List.nil_append, cat_int, cat_ref, cat_null, iI_add, iI_sub, iI_mul, iI_neg, List.length_cons, List.length_nil, ↓reduceIte, va_rf_some, Int.reduceToNat, md_0, md_1, md_2, md_3, md_4, md_5, md_6, md_7, md_8, md_9, md_10, md_11, md_12, md_13, md_14, md_15, md_16, md_17, md_18, md_19, md_20, md_21, md_22, md_23, md_24, md_25, md_26, md_27, md_28, md_29, md_30, md_31, mu_0, mu_3, mu_7, mu_9, mu_12, mu_13, mu_14, mu_15, mu_16, mu_17, mu_18, mu_23, mu_24, mu_26, mu_27, mu_28, mu_29]
  · have e : ¬ (0 ≤ b ∧ b ≤ 6 * (n : Int) - 1) := by omega
    rw [if_neg c, if_neg e]
    simp (disch := first | assumption | omega | exact isB_z | exact isB_o | exact iI_in' (by assumption) (by omega) (by omega) | exact cat_int _ | exact cat_ref _ | exact cat_null | decide) only [↓x_97_16, up1_same, up1_ne, up1_up1, us_0, us_1, us_2, us_3, us_4, us_5, us_6, us_7, us_8, us_9, us_10, us_11, rw_zero, rw_succ, Option.toList_some, Option.toList_none, List.cons_append, List.nil_append, cat_int, cat_ref, cat_null, iI_add, iI_sub, iI_mul, iI_neg, List.length_cons, List.length_nil, ↓reduceIte, va_rf_some, Int.reduceToNat, md_0, md_1, md_2, md_3, md_4, md_5, md_6, md_7, md_8, md_9, md_10, md_11, md_12, md_13, md_14, md_15, md_16, md_17, md_18, md_19, md_20, md_21, md_22, md_23, md_24, md_25, md_26, md_27, md_28, md_29, md_30, md_31, mu_0, mu_3, mu_7, mu_9, mu_12, mu_13, mu_14, mu_15, mu_16, mu_17, mu_18, mu_23, mu_24, mu_26, mu_27, mu_28, mu_29]
theorem km_bit {b : Int} (hK : mK t) (hS : wfS S) (h : RM g A S) (h1 : -2147483648 ≤ b ∧ b < 2147483648) (hQ : hqM t V A P Q (aBit S.X b, S)) : Call (d + 3) 102 [.ref 62, .int (iI b)] (t, up1 V 62 (mdR g), A, P) Q := by
  have hK' := hK
  obtain ⟨m0, ⟨m1, l1⟩, ⟨m2, l2⟩, ⟨m3, l3⟩, ⟨m4, l4⟩, ⟨m5, l5⟩, ⟨m6, l6⟩, ⟨m7, l7⟩, ⟨m8, l8⟩, ⟨m9, l9⟩, ⟨m10, l10⟩, ⟨m11, l11⟩, ⟨m12, l12⟩, ⟨m13, l13⟩, ⟨m14, l14⟩, m15, l15⟩ := hK
  have a0 := h.wi.h0
  have hX := hS.wo.1
  unfold aBit at hQ
  by_cases c : 0 ≤ b ∧ b < S.X.1.length * 6
  · rw [if_pos c] at hQ
    have hb := h.wi.h5 b.toNat (by omega)
    have tn1 : (36 + b).toNat = 36 + b.toNat := by omega
    rw [Int.toNat_of_nonneg c.1] at hb
    simp (disch := first | assumption | omega | exact isB_z | exact isB_o | exact iI_in' (by assumption) (by omega) (by omega) | exact cat_int _ | exact cat_ref _ | exact cat_null | decide) only [c_102, ↓x_102_0, ↓x_102_1, ↓x_102_2, ↓x_102_5, ↓x_102_6, ↓x_102_7, ↓x_102_10, ↓x_102_13, ↓x_102_14, ↓x_102_17, ↓x_102_19, ↓x_102_20, ↓x_102_21, ↓x_102_22, ↓x_102_25, ↓x_102_26, up1_same, up1_ne, up1_up1, us_0, us_1, us_2, us_3, us_4, us_5, us_6, us_7, us_8, us_9, us_10, us_11, rw_zero, rw_succ, Option.toList_some, Option.toList_none, List.cons_append, List.nil_append, cat_int, cat_ref, cat_null, iI_add, iI_sub, iI_mul, iI_neg, List.length_cons, List.length_nil, ↓reduceIte, va_rf_some, Int.reduceToNat, md_0, md_1, md_2, md_3, md_4, md_5, md_6, md_7, md_8, md_9, md_10, md_11, md_12, md_13, md_14, md_15, md_16, md_17, md_18, md_19, md_20, md_21, md_22, md_23, md_24, md_25, md_26, md_27, md_28, md_29, md_30, md_31, mu_0, mu_3, mu_7, mu_9, mu_12, mu_13, mu_14, mu_15, mu_16, mu_17, mu_18, mu_23, mu_24, mu_26, mu_27, mu_28, mu_29, i10, iI_eq, iI_lt, iI_cl, if_true, if_false, and_self, k_isBit hK' a0 hX h1, c, tn1, hb]
    exact hQ _ A h.th (fun _ _ => rfl)
  · rw [if_neg c] at hQ
    simp (disch := first | assumption | omega | exact isB_z | exact isB_o | exact iI_in' (by assumption) (by omega) (by omega) | exact cat_int _ | exact cat_ref _ | exact cat_null | decide) only [c_102, ↓x_102_0, ↓x_102_1, ↓x_102_2, ↓x_102_5, ↓x_102_6, ↓x_102_7, ↓x_102_10, ↓x_102_13, ↓x_102_14, ↓x_102_17, ↓x_102_19, ↓x_102_20, ↓x_102_21, ↓x_102_22, ↓x_102_25, ↓x_102_26, up1_same, up1_ne, up1_up1, us_0, us_1, us_2, us_3, us_4, us_5, us_6, us_7, us_8, us_9, us_10, us_11, rw_zero, rw_succ, Option.toList_some, Option.toList_none, List.cons_append, List.nil_append, cat_int, cat_ref, cat_null, iI_add, iI_sub, iI_mul, iI_neg, List.length_cons, List.length_nil, ↓reduceIte, va_rf_some, Int.reduceToNat, md_0, md_1, md_2, md_3, md_4, md_5, md_6, md_7, md_8, md_9, md_10, md_11, md_12, md_13, md_14, md_15, md_16, md_17, md_18, md_19, md_20, md_21, md_22, md_23, md_24, md_25, md_26, md_27, md_28, md_29, md_30, md_31, mu_0, mu_3, mu_7, mu_9, mu_12, mu_13, mu_14, mu_15, mu_16, mu_17, mu_18, mu_23, mu_24, mu_26, mu_27, mu_28, mu_29, i10, iI_eq, iI_lt, iI_cl, if_true, if_false, and_self, k_isBit hK' a0 hX h1, c]
    exact hQ _ A h.th (fun _ _ => rfl)
theorem km_word {b : Int} (hK : mK t) (hS : wfS S) (h : RM g A S) (h1 : -2147483648 ≤ b ∧ b < 2147483648) (hQ : hqM t V A P Q (aWord S.X b, S)) : Call (d + 3) 103 [.ref 62, .int (iI b)] (t, up1 V 62 (mdR g), A, P) Q := by
  have hK' := hK
  obtain ⟨m0, ⟨m1, l1⟩, ⟨m2, l2⟩, ⟨m3, l3⟩, ⟨m4, l4⟩, ⟨m5, l5⟩, ⟨m6, l6⟩, ⟨m7, l7⟩, ⟨m8, l8⟩, ⟨m9, l9⟩, ⟨m10, l10⟩, ⟨m11, l11⟩, ⟨m12, l12⟩, ⟨m13, l13⟩, ⟨m14, l14⟩, m15, l15⟩ := hK
  have a0 := h.wi.h0
  have hX := hS.wo.1
  unfold aWord at hQ
  by_cases c : 0 ≤ b ∧ b < S.X.1.length
  · rw [if_pos c] at hQ
    have hb := h.wi.h4 b.toNat (by omega)
    have tn1 : (4 + b).toNat = 4 + b.toNat := by omega
    have e : 0 ≤ b ∧ b ≤ (S.X.1.length : Int) - 1 := by omega
    simp (disch := first | assumption | omega | exact isB_z | exact isB_o | exact iI_in' (by assumption) (by omega) (by omega) | exact cat_int _ | exact cat_ref _ | exact cat_null | decide) only [c_103, ↓x_103_0, ↓x_103_1, ↓x_103_2, ↓x_103_5, ↓x_103_6, ↓x_103_7, ↓x_103_8, ↓x_103_11, ↓x_103_12, ↓x_103_13, ↓x_103_14, ↓x_103_15, ↓x_103_18, ↓x_103_21, ↓x_103_22, ↓x_103_25, ↓x_103_26, ↓x_103_27, ↓x_103_28, ↓x_103_29, ↓x_103_32, ↓x_103_33, up1_same, up1_ne, up1_up1, us_0, us_1, us_2, us_3, us_4, us_5, us_6, us_7, us_8, us_9, us_10, us_11, rw_zero, rw_succ, Option.toList_some, Option.toList_none, List.cons_append, List.nil_append, cat_int, cat_ref, cat_null, iI_add, iI_sub, iI_mul, iI_neg, List.length_cons, List.length_nil, ↓reduceIte, va_rf_some, Int.reduceToNat, md_0, md_1, md_2, md_3, md_4, md_5, md_6, md_7, md_8, md_9, md_10, md_11, md_12, md_13, md_14, md_15, md_16, md_17, md_18, md_19, md_20, md_21, md_22, md_23, md_24, md_25, md_26, md_27, md_28, md_29, md_30, md_31, mu_0, mu_3, mu_7, mu_9, mu_12, mu_13, mu_14, mu_15, mu_16, mu_17, mu_18, mu_23, mu_24, mu_26, mu_27, mu_28, mu_29, i10, iI_eq, iI_lt, iI_cl, if_true, if_false, and_self, k_in, a0, e, tn1, hb]
    exact hQ _ A h.th (fun _ _ => rfl)
  · rw [if_neg c] at hQ
    have e : ¬ (0 ≤ b ∧ b ≤ (S.X.1.length : Int) - 1) := by omega
    simp (disch := first | assumption | omega | exact isB_z | exact isB_o | exact iI_in' (by assumption) (by omega) (by omega) | exact cat_int _ | exact cat_ref _ | exact cat_null | decide) only [c_103, ↓x_103_0, ↓x_103_1, ↓x_103_2, ↓x_103_5, ↓x_103_6, ↓x_103_7, ↓x_103_8, ↓x_103_11, ↓x_103_12, ↓x_103_13, ↓x_103_14, ↓x_103_15, ↓x_103_18, ↓x_103_21, ↓x_103_22, ↓x_103_25, ↓x_103_26, ↓x_103_27, ↓x_103_28, ↓x_103_29, ↓x_103_32, ↓x_103_33, up1_same, up1_ne, up1_up1, us_0, us_1, us_2, us_3, us_4, us_5, us_6, us_7, us_8, us_9, us_10, us_11, rw_zero, rw_succ, Option.toList_some, Option.toList_none, List.cons_append, List.nil_append, cat_int, cat_ref, cat_null, iI_add, iI_sub, iI_mul, iI_neg, List.length_cons, List.length_nil, ↓reduceIte, va_rf_some, Int.reduceToNat, md_0, md_1, md_2, md_3, md_4, md_5, md_6, md_7, md_8, md_9, md_10, md_11, md_12, md_13, md_14, md_15, md_16, md_17, md_18, md_19, md_20, md_21, md_22, md_23, md_24, md_25, md_26, md_27, md_28, md_29, md_30, md_31, mu_0, mu_3, mu_7, mu_9, mu_12, mu_13, mu_14, mu_15, mu_16, mu_17, mu_18, mu_23, mu_24, mu_26, mu_27, mu_28, mu_29, i10, iI_eq, iI_lt, iI_cl, if_true, if_false, and_self, k_in, a0, e]
    exact hQ _ A h.th (fun _ _ => rfl)
theorem km_form {k f : Int} (hK : mK t) (h : RM g A S) (h1 : -2147483648 ≤ k ∧ k < 2147483648) (h2 : -2147483648 ≤ f ∧ f < 2147483648) (hQ : hqM t V A P Q (aForm k f, S)) : Call (d + 4) 101 [.ref 62, .int (iI k), .int (iI f)] (t, up1 V 62 (mdR g), A, P) Q := by
  have m0 := hK.1
  unfold aForm at hQ
  by_cases c : 0 ≤ k ∧ k ≤ 33
  · by_cases c2 : 0 ≤ f ∧ f ≤ 1
    · rw [if_pos (by omega)] at hQ
      simp (disch := first | assumption | omega | exact isB_z | exact isB_o | exact iI_in' (by assumption) (by omega) (by omega) | exact cat_int _ | exact cat_ref _ | exact cat_null | decide) only [c_101, ↓x_101_0, ↓x_101_1, ↓x_101_2, ↓x_101_5, ↓x_101_6, ↓x_101_7, ↓x_101_9, ↓x_101_12, ↓x_101_15, ↓x_101_16, ↓x_101_17, ↓x_101_18, ↓x_101_21, ↓x_101_24, ↓x_101_25, ↓x_101_26, ↓x_101_29, ↓x_101_32, ↓x_101_33, up1_same, up1_ne, up1_up1, us_0, us_1, us_2, us_3, us_4, us_5, us_6, us_7, us_8, us_9, us_10, us_11, rw_zero, rw_succ, Option.toList_some, Option.toList_none, List.cons_append, List.nil_append, cat_int, cat_ref, cat_null, iI_add, iI_sub, iI_mul, iI_neg, List.length_cons, List.length_nil, ↓reduceIte, va_rf_some, Int.reduceToNat, md_0, md_1, md_2, md_3, md_4, md_5, md_6, md_7, md_8, md_9, md_10, md_11, md_12, md_13, md_14, md_15, md_16, md_17, md_18, md_19, md_20, md_21, md_22, md_23, md_24, md_25, md_26, md_27, md_28, md_29, md_30, md_31, mu_0, mu_3, mu_7, mu_9, mu_12, mu_13, mu_14, mu_15, mu_16, mu_17, mu_18, mu_23, mu_24, mu_26, mu_27, mu_28, mu_29, i10, iI_eq, iI_lt, iI_cl, if_true, if_false, and_self, k_in, c, c2, k_formOf]
      exact hQ _ A h.th (fun _ _ => rfl)
    · rw [if_neg (by omega)] at hQ
      simp (disch := first | assumption | omega | exact isB_z | exact isB_o | exact iI_in' (by assumption) (by omega) (by omega) | exact cat_int _ | exact cat_ref _ | exact cat_null | decide) only [c_101, ↓x_101_0, ↓x_101_1, ↓x_101_2, ↓x_101_5, ↓x_101_6, ↓x_101_7, ↓x_101_9, ↓x_101_12, ↓x_101_15, ↓x_101_16, ↓x_101_17, ↓x_101_18, ↓x_101_21, ↓x_101_24, ↓x_101_25, ↓x_101_26, ↓x_101_29, ↓x_101_32, ↓x_101_33, up1_same, up1_ne, up1_up1, us_0, us_1, us_2, us_3, us_4, us_5, us_6, us_7, us_8, us_9, us_10, us_11, rw_zero, rw_succ, Option.toList_some, Option.toList_none, List.cons_append, List.nil_append, cat_int, cat_ref, cat_null, iI_add, iI_sub, iI_mul, iI_neg, List.length_cons, List.length_nil, ↓reduceIte, va_rf_some, Int.reduceToNat, md_0, md_1, md_2, md_3, md_4, md_5, md_6, md_7, md_8, md_9, md_10, md_11, md_12, md_13, md_14, md_15, md_16, md_17, md_18, md_19, md_20, md_21, md_22, md_23, md_24, md_25, md_26, md_27, md_28, md_29, md_30, md_31, mu_0, mu_3, mu_7, mu_9, mu_12, mu_13, mu_14, mu_15, mu_16, mu_17, mu_18, mu_23, mu_24, mu_26, mu_27, mu_28, mu_29, i10, iI_eq, iI_lt, iI_cl, if_true, if_false, and_self, k_in, c, c2]
      exact hQ _ A h.th (fun _ _ => rfl)
  · rw [if_neg (by omega)] at hQ
    simp (disch := first | assumption | omega | exact isB_z | exact isB_o | exact iI_in' (by assumption) (by omega) (by omega) | exact cat_int _ | exact cat_ref _ | exact cat_null | decide) only [c_101, ↓x_101_0, ↓x_101_1, ↓x_101_2, ↓x_101_5, ↓x_101_6, ↓x_101_7, ↓x_101_9, ↓x_101_12, ↓x_101_15, ↓x_101_16, ↓x_101_17, ↓x_101_18, ↓x_101_21, ↓x_101_24, ↓x_101_25, ↓x_101_26, ↓x_101_29, ↓x_101_32, ↓x_101_33, up1_same, up1_ne, up1_up1, us_0, us_1, us_2, us_3, us_4, us_5, us_6, us_7, us_8, us_9, us_10, us_11, rw_zero, rw_succ, Option.toList_some, Option.toList_none, List.cons_append, List.nil_append, cat_int, cat_ref, cat_null, iI_add, iI_sub, iI_mul, iI_neg, List.length_cons, List.length_nil, ↓reduceIte, va_rf_some, Int.reduceToNat, md_0, md_1, md_2, md_3, md_4, md_5, md_6, md_7, md_8, md_9, md_10, md_11, md_12, md_13, md_14, md_15, md_16, md_17, md_18, md_19, md_20, md_21, md_22, md_23, md_24, md_25, md_26, md_27, md_28, md_29, md_30, md_31, mu_0, mu_3, mu_7, mu_9, mu_12, mu_13, mu_14, mu_15, mu_16, mu_17, mu_18, mu_23, mu_24, mu_26, mu_27, mu_28, mu_29, i10, iI_eq, iI_lt, iI_cl, if_true, if_false, and_self, k_in, c]
    exact hQ _ A h.th (fun _ _ => rfl)
theorem km_recent {i : Int} (hK : mK t) (hS : wfS S) (h : RM g A S) (h1 : -2147483648 ≤ i ∧ i < 2147483648) (hQ : hqM t V A P Q (aRecent S.X i, S)) : Call (d + 1) 104 [.ref 62, .int (iI i)] (t, up1 V 62 (mdR g), A, P) Q := by
  obtain ⟨m0, ⟨m1, l1⟩, ⟨m2, l2⟩, ⟨m3, l3⟩, ⟨m4, l4⟩, ⟨m5, l5⟩, ⟨m6, l6⟩, ⟨m7, l7⟩, ⟨m8, l8⟩, ⟨m9, l9⟩, ⟨m10, l10⟩, ⟨m11, l11⟩, ⟨m12, l12⟩, ⟨m13, l13⟩, ⟨m14, l14⟩, m15, l15⟩ := hK
  have a2 := h.wi.h2
  have a3 := h.wi.h3
  have hb := rc_b hS.wo
  have h9 := rc_9 hS.wo
  unfold aRecent rcG at hQ
  by_cases c : i < 0
  · rw [if_pos c] at hQ
    simp (disch := first | assumption | omega | exact isB_z | exact isB_o | exact iI_in' (by assumption) (by omega) (by omega) | exact cat_int _ | exact cat_ref _ | exact cat_null | decide) only [c_104, ↓x_104_0, ↓x_104_1, ↓x_104_2, ↓x_104_5, ↓x_104_6, ↓x_104_9, ↓x_104_10, up1_same, up1_ne, up1_up1, us_0, us_1, us_2, us_3, us_4, us_5, us_6, us_7, us_8, us_9, us_10, us_11, rw_zero, rw_succ, Option.toList_some, Option.toList_none, List.cons_append, List.nil_append, cat_int, cat_ref, cat_null, iI_add, iI_sub, iI_mul, iI_neg, List.length_cons, List.length_nil, ↓reduceIte, va_rf_some, Int.reduceToNat, md_0, md_1, md_2, md_3, md_4, md_5, md_6, md_7, md_8, md_9, md_10, md_11, md_12, md_13, md_14, md_15, md_16, md_17, md_18, md_19, md_20, md_21, md_22, md_23, md_24, md_25, md_26, md_27, md_28, md_29, md_30, md_31, mu_0, mu_3, mu_7, mu_9, mu_12, mu_13, mu_14, mu_15, mu_16, mu_17, mu_18, mu_23, mu_24, mu_26, mu_27, mu_28, mu_29, i10, iI_eq, iI_lt, iI_cl, if_true, if_false, and_self, c]
    exact hQ _ A h.th (fun _ _ => rfl)
  · rw [if_neg c] at hQ
    generalize (rc S.X.1).1 = o at *
    generalize (rc S.X.1).2 = l at *
    by_cases cl : l = -9
    · have co := h9 cl
      subst cl
      subst co
      rw [if_pos (by simp; omega)] at hQ
      have e : ¬ i < 0 + 0 := by omega
      simp (disch := first | assumption | omega | exact isB_z | exact isB_o | exact iI_in' (by assumption) (by omega) (by omega) | exact cat_int _ | exact cat_ref _ | exact cat_null | decide) only [c_104, ↓x_104_0, ↓x_104_1, ↓x_104_2, ↓x_104_5, ↓x_104_6, ↓x_104_9, ↓x_104_10, ↓x_104_11, ↓x_104_12, ↓x_104_15, ↓x_104_16, ↓x_104_17, ↓x_104_19, ↓x_104_22, ↓x_104_23, ↓x_104_26, ↓x_104_27, ↓x_104_28, ↓x_104_31, ↓x_104_32, ↓x_104_33, ↓x_104_35, ↓x_104_38, ↓x_104_39, ↓x_104_42, ↓x_104_43, ↓x_104_44, ↓x_104_45, ↓x_104_46, ↓x_104_47, ↓x_104_50, ↓x_104_51, ↓x_104_54, ↓x_104_55, ↓x_104_56, ↓x_104_57, ↓x_104_58, ↓x_104_59, ↓x_104_60, ↓x_104_63, ↓x_104_65, up1_same, up1_ne, up1_up1, us_0, us_1, us_2, us_3, us_4, us_5, us_6, us_7, us_8, us_9, us_10, us_11, rw_zero, rw_succ, Option.toList_some, Option.toList_none, List.cons_append, List.nil_append, cat_int, cat_ref, cat_null, iI_add, iI_sub, iI_mul, iI_neg, List.length_cons, List.length_nil, ↓reduceIte, va_rf_some, Int.reduceToNat, md_0, md_1, md_2, md_3, md_4, md_5, md_6, md_7, md_8, md_9, md_10, md_11, md_12, md_13, md_14, md_15, md_16, md_17, md_18, md_19, md_20, md_21, md_22, md_23, md_24, md_25, md_26, md_27, md_28, md_29, md_30, md_31, mu_0, mu_3, mu_7, mu_9, mu_12, mu_13, mu_14, mu_15, mu_16, mu_17, mu_18, mu_23, mu_24, mu_26, mu_27, mu_28, mu_29, i10, iI_eq, iI_lt, iI_cl, if_true, if_false, and_self, a2, a3, c, e]
      exact hQ _ A h.th (fun _ _ => rfl)
    · by_cases co : o = -9
      · subst co
        by_cases ci : i < 0 + 1
        · rw [if_neg (by simp [cl]; omega), if_pos (by simp [cl]; omega)] at hQ
          have e4 : (4 - (0 + 1) + i).toNat = 3 := by omega
          simp (disch := first | assumption | omega | exact isB_z | exact isB_o | exact iI_in' (by assumption) (by omega) (by omega) | exact cat_int _ | exact cat_ref _ | exact cat_null | decide) only [c_104, ↓x_104_0, ↓x_104_1, ↓x_104_2, ↓x_104_5, ↓x_104_6, ↓x_104_9, ↓x_104_10, ↓x_104_11, ↓x_104_12, ↓x_104_15, ↓x_104_16, ↓x_104_17, ↓x_104_19, ↓x_104_22, ↓x_104_23, ↓x_104_26, ↓x_104_27, ↓x_104_28, ↓x_104_31, ↓x_104_32, ↓x_104_33, ↓x_104_35, ↓x_104_38, ↓x_104_39, ↓x_104_42, ↓x_104_43, ↓x_104_44, ↓x_104_45, ↓x_104_46, ↓x_104_47, ↓x_104_50, ↓x_104_51, ↓x_104_54, ↓x_104_55, ↓x_104_56, ↓x_104_57, ↓x_104_58, ↓x_104_59, ↓x_104_60, ↓x_104_63, ↓x_104_65, up1_same, up1_ne, up1_up1, us_0, us_1, us_2, us_3, us_4, us_5, us_6, us_7, us_8, us_9, us_10, us_11, rw_zero, rw_succ, Option.toList_some, Option.toList_none, List.cons_append, List.nil_append, cat_int, cat_ref, cat_null, iI_add, iI_sub, iI_mul, iI_neg, List.length_cons, List.length_nil, ↓reduceIte, va_rf_some, Int.reduceToNat, md_0, md_1, md_2, md_3, md_4, md_5, md_6, md_7, md_8, md_9, md_10, md_11, md_12, md_13, md_14, md_15, md_16, md_17, md_18, md_19, md_20, md_21, md_22, md_23, md_24, md_25, md_26, md_27, md_28, md_29, md_30, md_31, mu_0, mu_3, mu_7, mu_9, mu_12, mu_13, mu_14, mu_15, mu_16, mu_17, mu_18, mu_23, mu_24, mu_26, mu_27, mu_28, mu_29, i10, iI_eq, iI_lt, iI_cl, if_true, if_false, and_self, a2, a3, c, cl, ci, e4]
          exact hQ _ A h.th (fun _ _ => rfl)
        · rw [if_pos (by simp [cl]; omega)] at hQ
          simp (disch := first | assumption | omega | exact isB_z | exact isB_o | exact iI_in' (by assumption) (by omega) (by omega) | exact cat_int _ | exact cat_ref _ | exact cat_null | decide) only [c_104, ↓x_104_0, ↓x_104_1, ↓x_104_2, ↓x_104_5, ↓x_104_6, ↓x_104_9, ↓x_104_10, ↓x_104_11, ↓x_104_12, ↓x_104_15, ↓x_104_16, ↓x_104_17, ↓x_104_19, ↓x_104_22, ↓x_104_23, ↓x_104_26, ↓x_104_27, ↓x_104_28, ↓x_104_31, ↓x_104_32, ↓x_104_33, ↓x_104_35, ↓x_104_38, ↓x_104_39, ↓x_104_42, ↓x_104_43, ↓x_104_44, ↓x_104_45, ↓x_104_46, ↓x_104_47, ↓x_104_50, ↓x_104_51, ↓x_104_54, ↓x_104_55, ↓x_104_56, ↓x_104_57, ↓x_104_58, ↓x_104_59, ↓x_104_60, ↓x_104_63, ↓x_104_65, up1_same, up1_ne, up1_up1, us_0, us_1, us_2, us_3, us_4, us_5, us_6, us_7, us_8, us_9, us_10, us_11, rw_zero, rw_succ, Option.toList_some, Option.toList_none, List.cons_append, List.nil_append, cat_int, cat_ref, cat_null, iI_add, iI_sub, iI_mul, iI_neg, List.length_cons, List.length_nil, ↓reduceIte, va_rf_some, Int.reduceToNat, md_0, md_1, md_2, md_3, md_4, md_5, md_6, md_7, md_8, md_9, md_10, md_11, md_12, md_13, md_14, md_15, md_16, md_17, md_18, md_19, md_20, md_21, md_22, md_23, md_24, md_25, md_26, md_27, md_28, md_29, md_30, md_31, mu_0, mu_3, mu_7, mu_9, mu_12, mu_13, mu_14, mu_15, mu_16, mu_17, mu_18, mu_23, mu_24, mu_26, mu_27, mu_28, mu_29, i10, iI_eq, iI_lt, iI_cl, if_true, if_false, and_self, a2, a3, c, cl, ci]
          exact hQ _ A h.th (fun _ _ => rfl)
      · by_cases ci : i < 1 + 1
        · rw [if_neg (by simp [cl, co]; omega)] at hQ
          by_cases c1 : i = 1
          · rw [if_pos (by simp [cl, co]; omega)] at hQ
            have e4 : (4 - (1 + 1) + i).toNat = 3 := by omega
            simp (disch := first | assumption | omega | exact isB_z | exact isB_o | exact iI_in' (by assumption) (by omega) (by omega) | exact cat_int _ | exact cat_ref _ | exact cat_null | decide) only [c_104, ↓x_104_0, ↓x_104_1, ↓x_104_2, ↓x_104_5, ↓x_104_6, ↓x_104_9, ↓x_104_10, ↓x_104_11, ↓x_104_12, ↓x_104_15, ↓x_104_16, ↓x_104_17, ↓x_104_19, ↓x_104_22, ↓x_104_23, ↓x_104_26, ↓x_104_27, ↓x_104_28, ↓x_104_31, ↓x_104_32, ↓x_104_33, ↓x_104_35, ↓x_104_38, ↓x_104_39, ↓x_104_42, ↓x_104_43, ↓x_104_44, ↓x_104_45, ↓x_104_46, ↓x_104_47, ↓x_104_50, ↓x_104_51, ↓x_104_54, ↓x_104_55, ↓x_104_56, ↓x_104_57, ↓x_104_58, ↓x_104_59, ↓x_104_60, ↓x_104_63, ↓x_104_65, up1_same, up1_ne, up1_up1, us_0, us_1, us_2, us_3, us_4, us_5, us_6, us_7, us_8, us_9, us_10, us_11, rw_zero, rw_succ, Option.toList_some, Option.toList_none, List.cons_append, List.nil_append, cat_int, cat_ref, cat_null, iI_add, iI_sub, iI_mul, iI_neg, List.length_cons, List.length_nil, ↓reduceIte, va_rf_some, Int.reduceToNat, md_0, md_1, md_2, md_3, md_4, md_5, md_6, md_7, md_8, md_9, md_10, md_11, md_12, md_13, md_14, md_15, md_16, md_17, md_18, md_19, md_20, md_21, md_22, md_23, md_24, md_25, md_26, md_27, md_28, md_29, md_30, md_31, mu_0, mu_3, mu_7, mu_9, mu_12, mu_13, mu_14, mu_15, mu_16, mu_17, mu_18, mu_23, mu_24, mu_26, mu_27, mu_28, mu_29, i10, iI_eq, iI_lt, iI_cl, if_true, if_false, and_self, a2, a3, c, cl, co, ci, e4]
            exact hQ _ A h.th (fun _ _ => rfl)
          · rw [if_neg (by simp [cl, co]; omega)] at hQ
            have e4 : (4 - (1 + 1) + i).toNat = 2 := by omega
            simp (disch := first | assumption | omega | exact isB_z | exact isB_o | exact iI_in' (by assumption) (by omega) (by omega) | exact cat_int _ | exact cat_ref _ | exact cat_null | decide) only [c_104, ↓x_104_0, ↓x_104_1, ↓x_104_2, ↓x_104_5, ↓x_104_6, ↓x_104_9, ↓x_104_10, ↓x_104_11, ↓x_104_12, ↓x_104_15, ↓x_104_16, ↓x_104_17, ↓x_104_19, ↓x_104_22, ↓x_104_23, ↓x_104_26, ↓x_104_27, ↓x_104_28, ↓x_104_31, ↓x_104_32, ↓x_104_33, ↓x_104_35, ↓x_104_38, ↓x_104_39, ↓x_104_42, ↓x_104_43, ↓x_104_44, ↓x_104_45, ↓x_104_46, ↓x_104_47, ↓x_104_50, ↓x_104_51, ↓x_104_54, ↓x_104_55, ↓x_104_56, ↓x_104_57, ↓x_104_58, ↓x_104_59, ↓x_104_60, ↓x_104_63, ↓x_104_65, up1_same, up1_ne, up1_up1, us_0, us_1, us_2, us_3, us_4, us_5, us_6, us_7, us_8, us_9, us_10, us_11, rw_zero, rw_succ, Option.toList_some, Option.toList_none, List.cons_append, List.nil_append, cat_int, cat_ref, cat_null, iI_add, iI_sub, iI_mul, iI_neg, List.length_cons, List.length_nil, ↓reduceIte, va_rf_some, Int.reduceToNat, md_0, md_1, md_2, md_3, md_4, md_5, md_6, md_7, md_8, md_9, md_10, md_11, md_12, md_13, md_14, md_15, md_16, md_17, md_18, md_19, md_20, md_21, md_22, md_23, md_24, md_25, md_26, md_27, md_28, md_29, md_30, md_31, mu_0, mu_3, mu_7, mu_9, mu_12, mu_13, mu_14, mu_15, mu_16, mu_17, mu_18, mu_23, mu_24, mu_26, mu_27, mu_28, mu_29, i10, iI_eq, iI_lt, iI_cl, if_true, if_false, and_self, a2, a3, c, cl, co, ci, e4]
            exact hQ _ A h.th (fun _ _ => rfl)
        · rw [if_pos (by simp [cl, co]; omega)] at hQ
          simp (disch := first | assumption | omega | exact isB_z | exact isB_o | exact iI_in' (by assumption) (by omega) (by omega) | exact cat_int _ | exact cat_ref _ | exact cat_null | decide) only [c_104, ↓x_104_0, ↓x_104_1, ↓x_104_2, ↓x_104_5, ↓x_104_6, ↓x_104_9, ↓x_104_10, ↓x_104_11, ↓x_104_12, ↓x_104_15, ↓x_104_16, ↓x_104_17, ↓x_104_19, ↓x_104_22, ↓x_104_23, ↓x_104_26, ↓x_104_27, ↓x_104_28, ↓x_104_31, ↓x_104_32, ↓x_104_33, ↓x_104_35, ↓x_104_38, ↓x_104_39, ↓x_104_42, ↓x_104_43, ↓x_104_44, ↓x_104_45, ↓x_104_46, ↓x_104_47, ↓x_104_50, ↓x_104_51, ↓x_104_54, ↓x_104_55, ↓x_104_56, ↓x_104_57, ↓x_104_58, ↓x_104_59, ↓x_104_60, ↓x_104_63, ↓x_104_65, up1_same, up1_ne, up1_up1, us_0, us_1, us_2, us_3, us_4, us_5, us_6, us_7, us_8, us_9, us_10, us_11, rw_zero, rw_succ, Option.toList_some, Option.toList_none, List.cons_append, List.nil_append, cat_int, cat_ref, cat_null, iI_add, iI_sub, iI_mul, iI_neg, List.length_cons, List.length_nil, ↓reduceIte, va_rf_some, Int.reduceToNat, md_0, md_1, md_2, md_3, md_4, md_5, md_6, md_7, md_8, md_9, md_10, md_11, md_12, md_13, md_14, md_15, md_16, md_17, md_18, md_19, md_20, md_21, md_22, md_23, md_24, md_25, md_26, md_27, md_28, md_29, md_30, md_31, mu_0, mu_3, mu_7, mu_9, mu_12, mu_13, mu_14, mu_15, mu_16, mu_17, mu_18, mu_23, mu_24, mu_26, mu_27, mu_28, mu_29, i10, iI_eq, iI_lt, iI_cl, if_true, if_false, and_self, a2, a3, c, cl, co, ci]
          exact hQ _ A h.th (fun _ _ => rfl)
theorem km_flips {b : Int} (hK : mK t) (hS : wfS S) (h : RM g A S) (h1 : -2147483648 ≤ b ∧ b < 2147483648) (hQ : hqM t V A P Q (aFlips S b)) : Call (d + 3) 98 [.ref 62, .int (iI b)] (t, up1 V 62 (mdR g), A, P) Q := by
  have hK' := hK
  obtain ⟨m0, ⟨m1, l1⟩, ⟨m2, l2⟩, ⟨m3, l3⟩, ⟨m4, l4⟩, ⟨m5, l5⟩, ⟨m6, l6⟩, ⟨m7, l7⟩, ⟨m8, l8⟩, ⟨m9, l9⟩, ⟨m10, l10⟩, ⟨m11, l11⟩, ⟨m12, l12⟩, ⟨m13, l13⟩, ⟨m14, l14⟩, m15, l15⟩ := hK
  have a0 := h.wi.h0
  have hX := hS.wo.1
  unfold aFlips at hQ
  by_cases c : 0 ≤ b ∧ b < S.X.1.length * 6
  · rw [if_pos c] at hQ
    have tn1 : (36 + b).toNat = 36 + b.toNat := by omega
    simp (disch := first | assumption | omega | exact isB_z | exact isB_o | exact iI_in' (by assumption) (by omega) (by omega) | exact cat_int _ | exact cat_ref _ | exact cat_null | decide) only [c_98, ↓x_98_0, ↓x_98_1, ↓x_98_2, ↓x_98_5, ↓x_98_6, ↓x_98_7, ↓x_98_10, ↓x_98_13, ↓x_98_14, ↓x_98_15, ↓x_98_16, up1_same, up1_ne, up1_up1, us_0, us_1, us_2, us_3, us_4, us_5, us_6, us_7, us_8, us_9, us_10, us_11, rw_zero, rw_succ, Option.toList_some, Option.toList_none, List.cons_append, List.nil_append, cat_int, cat_ref, cat_null, iI_add, iI_sub, iI_mul, iI_neg, List.length_cons, List.length_nil, ↓reduceIte, va_rf_some, Int.reduceToNat, md_0, md_1, md_2, md_3, md_4, md_5, md_6, md_7, md_8, md_9, md_10, md_11, md_12, md_13, md_14, md_15, md_16, md_17, md_18, md_19, md_20, md_21, md_22, md_23, md_24, md_25, md_26, md_27, md_28, md_29, md_30, md_31, mu_0, mu_3, mu_7, mu_9, mu_12, mu_13, mu_14, mu_15, mu_16, mu_17, mu_18, mu_23, mu_24, mu_26, mu_27, mu_28, mu_29, i10, iI_eq, iI_lt, iI_cl, if_true, if_false, and_self, k_isBit hK' a0 hX h1, c]
    refine k_notes hK' hS h.th (fun n A1 r1 r2 => ?_)
    have hb := r1.wi.h5 b.toNat (by show b.toNat < 6 * S.X.1.length; omega)
    rw [Int.toNat_of_nonneg c.1] at hb
    have hb' : A1 63 (36 + b.toNat) = iI (btA S.X.2 b) := hb
    simp (disch := first | assumption | omega | exact isB_z | exact isB_o | exact iI_in' (by assumption) (by omega) (by omega) | exact cat_int _ | exact cat_ref _ | exact cat_null | decide) only [↓x_98_19, ↓x_98_20, ↓x_98_23, ↓x_98_25, ↓x_98_26, ↓x_98_27, ↓x_98_28, ↓x_98_29, ↓x_98_32, ↓x_98_34, ↓x_98_35, ↓x_98_36, ↓x_98_37, ↓x_98_38, ↓x_98_39, ↓x_98_40, ↓x_98_43, ↓x_98_45, ↓x_98_46, ↓x_98_47, ↓x_98_48, up1_same, up1_ne, up1_up1, us_0, us_1, us_2, us_3, us_4, us_5, us_6, us_7, us_8, us_9, us_10, us_11, rw_zero, rw_succ, Option.toList_some, Option.toList_none, List.cons_append, List.nil_append, cat_int, cat_ref, cat_null, iI_add, iI_sub, iI_mul, iI_neg, List.length_cons, List.length_nil, ↓reduceIte, va_rf_some, Int.reduceToNat, md_0, md_1, md_2, md_3, md_4, md_5, md_6, md_7, md_8, md_9, md_10, md_11, md_12, md_13, md_14, md_15, md_16, md_17, md_18, md_19, md_20, md_21, md_22, md_23, md_24, md_25, md_26, md_27, md_28, md_29, md_30, md_31, mu_0, mu_3, mu_7, mu_9, mu_12, mu_13, mu_14, mu_15, mu_16, mu_17, mu_18, mu_23, mu_24, mu_26, mu_27, mu_28, mu_29, iI_cl, tn1, hb', upd_same]
    have e0 := btA_tX hS.wo c.1 c.2 c.1 c.2
    rw [if_pos rfl] at e0
    rw [e0] at hQ
    refine hQ _ _ (r1.wire (X' := tX S.X b) ⟨?_, ?_, ?_, ?_, fun i hi => ?_, fun q hq => ?_⟩ (fun a ha => up1_ne ha)) (fun a ha => by rw [up1_ne (by omega)]; exact r2 a (by omega))
    · rw [up1_same, upd_ne (by omega)]; exact r1.wi.h0
    · rw [up1_same, upd_ne (by omega)]; exact r1.wi.h1
    · rw [up1_same, upd_ne (by omega)]; exact r1.wi.h2
    · rw [up1_same, upd_ne (by omega)]; exact r1.wi.h3
    · have hi' : i < S.X.1.length := hi
      rw [up1_same, upd_ne (by omega)]; exact r1.wi.h4 i hi
    · have hq' : q < 6 * S.X.1.length := hq
      rw [up1_same, btA_tX hS.wo c.1 c.2 (by omega) (by omega)]
      by_cases e : q = b.toNat
      · subst e; rw [upd_same, if_pos (by omega)]
      · rw [upd_ne (by omega), if_neg (by omega)]; exact r1.wi.h5 q hq
  · rw [if_neg c] at hQ
    simp (disch := first | assumption | omega | exact isB_z | exact isB_o | exact iI_in' (by assumption) (by omega) (by omega) | exact cat_int _ | exact cat_ref _ | exact cat_null | decide) only [c_98, ↓x_98_0, ↓x_98_1, ↓x_98_2, ↓x_98_5, ↓x_98_6, ↓x_98_7, ↓x_98_10, ↓x_98_13, ↓x_98_14, up1_same, up1_ne, up1_up1, us_0, us_1, us_2, us_3, us_4, us_5, us_6, us_7, us_8, us_9, us_10, us_11, rw_zero, rw_succ, Option.toList_some, Option.toList_none, List.cons_append, List.nil_append, cat_int, cat_ref, cat_null, iI_add, iI_sub, iI_mul, iI_neg, List.length_cons, List.length_nil, ↓reduceIte, va_rf_some, Int.reduceToNat, md_0, md_1, md_2, md_3, md_4, md_5, md_6, md_7, md_8, md_9, md_10, md_11, md_12, md_13, md_14, md_15, md_16, md_17, md_18, md_19, md_20, md_21, md_22, md_23, md_24, md_25, md_26, md_27, md_28, md_29, md_30, md_31, mu_0, mu_3, mu_7, mu_9, mu_12, mu_13, mu_14, mu_15, mu_16, mu_17, mu_18, mu_23, mu_24, mu_26, mu_27, mu_28, mu_29, i10, iI_eq, iI_lt, iI_cl, if_true, if_false, and_self, k_isBit hK' a0 hX h1, c]
    exact hQ _ A h.th (fun _ _ => rfl)
theorem km_clears (hK : mK t) (hS : wfS S) (h : RM g A S) (hQ : hqM t V A P Q (aClears S)) : Call (d + 2) 99 [.ref 62] (t, up1 V 62 (mdR g), A, P) Q := by
  have hK' := hK
  obtain ⟨m0, ⟨m1, l1⟩, ⟨m2, l2⟩, ⟨m3, l3⟩, ⟨m4, l4⟩, ⟨m5, l5⟩, ⟨m6, l6⟩, ⟨m7, l7⟩, ⟨m8, l8⟩, ⟨m9, l9⟩, ⟨m10, l10⟩, ⟨m11, l11⟩, ⟨m12, l12⟩, ⟨m13, l13⟩, ⟨m14, l14⟩, m15, l15⟩ := hK
  have a0 := h.wi.h0
  have hX := hS.wo.1
  unfold aClears at hQ
  by_cases c : S.X.1.length = 0
  · rw [if_pos c] at hQ
    have e : (S.X.1.length : Int) = 0 := by omega
    simp (disch := first | assumption | omega | exact isB_z | exact isB_o | exact iI_in' (by assumption) (by omega) (by omega) | exact cat_int _ | exact cat_ref _ | exact cat_null | decide) only [c_99, ↓x_99_0, ↓x_99_1, ↓x_99_2, ↓x_99_5, ↓x_99_6, ↓x_99_9, ↓x_99_10, ↓x_99_11, ↓x_99_12, ↓x_99_13, ↓x_99_16, ↓x_99_18, up1_same, up1_ne, up1_up1, us_0, us_1, us_2, us_3, us_4, us_5, us_6, us_7, us_8, us_9, us_10, us_11, rw_zero, rw_succ, Option.toList_some, Option.toList_none, List.cons_append, List.nil_append, cat_int, cat_ref, cat_null, iI_add, iI_sub, iI_mul, iI_neg, List.length_cons, List.length_nil, ↓reduceIte, va_rf_some, Int.reduceToNat, md_0, md_1, md_2, md_3, md_4, md_5, md_6, md_7, md_8, md_9, md_10, md_11, md_12, md_13, md_14, md_15, md_16, md_17, md_18, md_19, md_20, md_21, md_22, md_23, md_24, md_25, md_26, md_27, md_28, md_29, md_30, md_31, mu_0, mu_3, mu_7, mu_9, mu_12, mu_13, mu_14, mu_15, mu_16, mu_17, mu_18, mu_23, mu_24, mu_26, mu_27, mu_28, mu_29, i10, iI_eq, iI_lt, iI_cl, if_true, if_false, and_self, a0, e]
    exact hQ _ A h.th (fun _ _ => rfl)
  · rw [if_neg c] at hQ
    have e : ¬ (S.X.1.length : Int) = 0 := by omega
    simp (disch := first | assumption | omega | exact isB_z | exact isB_o | exact iI_in' (by assumption) (by omega) (by omega) | exact cat_int _ | exact cat_ref _ | exact cat_null | decide) only [c_99, ↓x_99_0, ↓x_99_1, ↓x_99_2, ↓x_99_5, ↓x_99_6, ↓x_99_9, ↓x_99_10, ↓x_99_11, ↓x_99_12, ↓x_99_13, ↓x_99_16, ↓x_99_18, ↓x_99_19, ↓x_99_20, up1_same, up1_ne, up1_up1, us_0, us_1, us_2, us_3, us_4, us_5, us_6, us_7, us_8, us_9, us_10, us_11, rw_zero, rw_succ, Option.toList_some, Option.toList_none, List.cons_append, List.nil_append, cat_int, cat_ref, cat_null, iI_add, iI_sub, iI_mul, iI_neg, List.length_cons, List.length_nil, ↓reduceIte, va_rf_some, Int.reduceToNat, md_0, md_1, md_2, md_3, md_4, md_5, md_6, md_7, md_8, md_9, md_10, md_11, md_12, md_13, md_14, md_15, md_16, md_17, md_18, md_19, md_20, md_21, md_22, md_23, md_24, md_25, md_26, md_27, md_28, md_29, md_30, md_31, mu_0, mu_3, mu_7, mu_9, mu_12, mu_13, mu_14, mu_15, mu_16, mu_17, mu_18, mu_23, mu_24, mu_26, mu_27, mu_28, mu_29, i10, iI_eq, iI_lt, iI_cl, if_true, if_false, and_self, a0, e]
    refine k_notes hK' hS h.th (fun n A1 r1 r2 => ?_)
    simp (disch := first | assumption | omega | exact isB_z | exact isB_o | exact iI_in' (by assumption) (by omega) (by omega) | exact cat_int _ | exact cat_ref _ | exact cat_null | decide) only [↓x_99_23, ↓x_99_24, up1_same, up1_ne, up1_up1, us_0, us_1, us_2, us_3, us_4, us_5, us_6, us_7, us_8, us_9, us_10, us_11, rw_zero, rw_succ, Option.toList_some, Option.toList_none, List.cons_append, List.nil_append, cat_int, cat_ref, cat_null, iI_add, iI_sub, iI_mul, iI_neg, List.length_cons, List.length_nil, ↓reduceIte, va_rf_some, Int.reduceToNat, md_0, md_1, md_2, md_3, md_4, md_5, md_6, md_7, md_8, md_9, md_10, md_11, md_12, md_13, md_14, md_15, md_16, md_17, md_18, md_19, md_20, md_21, md_22, md_23, md_24, md_25, md_26, md_27, md_28, md_29, md_30, md_31, mu_0, mu_3, mu_7, mu_9, mu_12, mu_13, mu_14, mu_15, mu_16, mu_17, mu_18, mu_23, mu_24, mu_26, mu_27, mu_28, mu_29]
    refine k_bares hK' (fun A2 q1 q2 => ?_)
    simp (disch := first | assumption | omega | exact isB_z | exact isB_o | exact iI_in' (by assumption) (by omega) (by omega) | exact cat_int _ | exact cat_ref _ | exact cat_null | decide) only [↓x_99_27, ↓x_99_28, up1_same, up1_ne, up1_up1, us_0, us_1, us_2, us_3, us_4, us_5, us_6, us_7, us_8, us_9, us_10, us_11, rw_zero, rw_succ, Option.toList_some, Option.toList_none, List.cons_append, List.nil_append, cat_int, cat_ref, cat_null, iI_add, iI_sub, iI_mul, iI_neg, List.length_cons, List.length_nil, ↓reduceIte, va_rf_some, Int.reduceToNat, md_0, md_1, md_2, md_3, md_4, md_5, md_6, md_7, md_8, md_9, md_10, md_11, md_12, md_13, md_14, md_15, md_16, md_17, md_18, md_19, md_20, md_21, md_22, md_23, md_24, md_25, md_26, md_27, md_28, md_29, md_30, md_31, mu_0, mu_3, mu_7, mu_9, mu_12, mu_13, mu_14, mu_15, mu_16, mu_17, mu_18, mu_23, mu_24, mu_26, mu_27, mu_28, mu_29]
    exact hQ _ A2 (r1.wire q1 q2) (fun a ha => (q2 a (by omega)).trans (r2 a (by omega)))
theorem km_clear (hK : mK t) (h : RM g A S) (hQ : hqM t V A P Q (aClear S)) : Call (d + 1) 87 [.ref 62] (t, up1 V 62 (mdR g), A, P) Q := by
  have m0 := hK.1
  have ty := h.ty
  simp (disch := first | assumption | omega | exact isB_z | exact isB_o | exact iI_in' (by assumption) (by omega) (by omega) | exact cat_int _ | exact cat_ref _ | exact cat_null | decide) only [c_87, ↓x_87_0, ↓x_87_1, ↓x_87_2, ↓x_87_5, ↓x_87_6, ↓x_87_9, ↓x_87_10, ↓x_87_11, ↓x_87_12, ↓x_87_15, ↓x_87_16, up1_same, up1_ne, up1_up1, us_0, us_1, us_2, us_3, us_4, us_5, us_6, us_7, us_8, us_9, us_10, us_11, rw_zero, rw_succ, Option.toList_some, Option.toList_none, List.cons_append, List.nil_append, cat_int, cat_ref, cat_null, iI_add, iI_sub, iI_mul, iI_neg, List.length_cons, List.length_nil, ↓reduceIte, va_rf_some, Int.reduceToNat, md_0, md_1, md_2, md_3, md_4, md_5, md_6, md_7, md_8, md_9, md_10, md_11, md_12, md_13, md_14, md_15, md_16, md_17, md_18, md_19, md_20, md_21, md_22, md_23, md_24, md_25, md_26, md_27, md_28, md_29, md_30, md_31, mu_0, mu_3, mu_7, mu_9, mu_12, mu_13, mu_14, mu_15, mu_16, mu_17, mu_18, mu_23, mu_24, mu_26, mu_27, mu_28, mu_29, ty]
  exact hQ _ A ⟨h.wi, (up1_ne (by omega)).trans ((up1_ne (by omega)).trans h.um), h.ew, h.im, up1_same _ _ _, fun i hi => absurd hi (Nat.not_lt_zero _), by rw [up1_ne (by omega), up1_ne (by omega)]; exact h.la⟩ (fun _ _ => rfl)
theorem km_type {c : Int} (hK : mK t) (hS : wfS S) (h : RM g A S) (h1 : -2147483648 ≤ c ∧ c < 2147483648) (hQ : hqM t V A P Q (aType S c)) : Call (d + 2) 86 [.ref 62, .int (iI c)] (t, up1 V 62 (mdR g), A, P) Q := by
  obtain ⟨m0, ⟨m1, l1⟩, ⟨m2, l2⟩, ⟨m3, l3⟩, ⟨m4, l4⟩, ⟨m5, l5⟩, ⟨m6, l6⟩, ⟨m7, l7⟩, ⟨m8, l8⟩, ⟨m9, l9⟩, ⟨m10, l10⟩, ⟨m11, l11⟩, ⟨m12, l12⟩, ⟨m13, l13⟩, ⟨m14, l14⟩, m15, l15⟩ := hK
  have ty := h.ty
  have tl := hS.tl
  unfold aType at hQ
  by_cases e : 0 ≤ c ∧ c ≤ 255
  · rw [if_neg (by omega)] at hQ
    by_cases e2 : 120 ≤ S.T.length
    · rw [if_pos e2] at hQ
      have e3 : (S.T.length : Int) = 120 := by omega
      simp (disch := first | assumption | omega | exact isB_z | exact isB_o | exact iI_in' (by assumption) (by omega) (by omega) | exact cat_int _ | exact cat_ref _ | exact cat_null | decide) only [c_86, ↓x_86_0, ↓x_86_1, ↓x_86_2, ↓x_86_5, ↓x_86_6, ↓x_86_7, ↓x_86_10, ↓x_86_13, ↓x_86_16, ↓x_86_17, ↓x_86_18, ↓x_86_19, ↓x_86_22, ↓x_86_24, ↓x_86_27, ↓x_86_29, up1_same, up1_ne, up1_up1, us_0, us_1, us_2, us_3, us_4, us_5, us_6, us_7, us_8, us_9, us_10, us_11, rw_zero, rw_succ, Option.toList_some, Option.toList_none, List.cons_append, List.nil_append, cat_int, cat_ref, cat_null, iI_add, iI_sub, iI_mul, iI_neg, List.length_cons, List.length_nil, ↓reduceIte, va_rf_some, Int.reduceToNat, md_0, md_1, md_2, md_3, md_4, md_5, md_6, md_7, md_8, md_9, md_10, md_11, md_12, md_13, md_14, md_15, md_16, md_17, md_18, md_19, md_20, md_21, md_22, md_23, md_24, md_25, md_26, md_27, md_28, md_29, md_30, md_31, mu_0, mu_3, mu_7, mu_9, mu_12, mu_13, mu_14, mu_15, mu_16, mu_17, mu_18, mu_23, mu_24, mu_26, mu_27, mu_28, mu_29, i10, iI_eq, iI_lt, iI_cl, if_true, if_false, and_self, k_in, e, ty, e3]
      exact hQ _ A h.th (fun _ _ => rfl)
    · rw [if_neg e2] at hQ
      have e3 : ¬ (S.T.length : Int) = 120 := by omega
      have tn1 : ((S.T.length : Nat) : Int).toNat = S.T.length := Int.toNat_natCast _
      simp (disch := first | assumption | omega | exact isB_z | exact isB_o | exact iI_in' (by assumption) (by omega) (by omega) | exact cat_int _ | exact cat_ref _ | exact cat_null | decide) only [c_86, ↓x_86_0, ↓x_86_1, ↓x_86_2, ↓x_86_5, ↓x_86_6, ↓x_86_7, ↓x_86_10, ↓x_86_13, ↓x_86_16, ↓x_86_17, ↓x_86_18, ↓x_86_19, ↓x_86_22, ↓x_86_24, ↓x_86_27, ↓x_86_29, ↓x_86_30, ↓x_86_31, ↓x_86_34, ↓x_86_35, ↓x_86_38, ↓x_86_39, ↓x_86_40, ↓x_86_41, ↓x_86_42, ↓x_86_45, ↓x_86_46, ↓x_86_47, ↓x_86_50, ↓x_86_51, ↓x_86_54, up1_same, up1_ne, up1_up1, us_0, us_1, us_2, us_3, us_4, us_5, us_6, us_7, us_8, us_9, us_10, us_11, rw_zero, rw_succ, Option.toList_some, Option.toList_none, List.cons_append, List.nil_append, cat_int, cat_ref, cat_null, iI_add, iI_sub, iI_mul, iI_neg, List.length_cons, List.length_nil, ↓reduceIte, va_rf_some, Int.reduceToNat, md_0, md_1, md_2, md_3, md_4, md_5, md_6, md_7, md_8, md_9, md_10, md_11, md_12, md_13, md_14, md_15, md_16, md_17, md_18, md_19, md_20, md_21, md_22, md_23, md_24, md_25, md_26, md_27, md_28, md_29, md_30, md_31, mu_0, mu_3, mu_7, mu_9, mu_12, mu_13, mu_14, mu_15, mu_16, mu_17, mu_18, mu_23, mu_24, mu_26, mu_27, mu_28, mu_29, i10, iI_eq, iI_lt, iI_cl, if_true, if_false, and_self, k_in, e, ty, e3, tn1]
      refine hQ _ _ ⟨by rw [up1_ne (by omega)]; exact h.wi, (up1_ne (by omega)).trans ((up1_ne (by omega)).trans h.um), fun i hi => by rw [up1_ne (by omega)]; exact h.ew i hi, fun i hi => imM_eq (h.im i hi) (up1_ne (by omega)) (up1_ne (by omega)), ?_, fun i hi => ?_, ?_⟩ (fun a ha => up1_ne (by omega))
      · rw [up1_same]; show _ = (((S.T ++ [c]).length : Nat) : Int); simp
      · have hi0 : i < (S.T ++ [c]).length := hi
        have hi' : i < S.T.length + 1 := by simpa using hi0
        show _ = iI ((S.T ++ [c]).getD i 0)
        rw [up1_same]
        by_cases q : i = S.T.length
        · subst q; rw [upd_same, getD_app_eq]
        · rw [upd_ne q, getD_app_lt (by omega)]; exact h.tx i (by omega)
      · rw [up1_ne (by omega), up1_ne (by omega)]
        rcases h.la with q | ⟨q, q2⟩
        · exact Or.inl q
        · exact Or.inr ⟨q, tabL_eq q2 (up1_ne (by omega)) (up1_ne (by omega))⟩
  · rw [if_pos (by omega)] at hQ
    simp (disch := first | assumption | omega | exact isB_z | exact isB_o | exact iI_in' (by assumption) (by omega) (by omega) | exact cat_int _ | exact cat_ref _ | exact cat_null | decide) only [c_86, ↓x_86_0, ↓x_86_1, ↓x_86_2, ↓x_86_5, ↓x_86_6, ↓x_86_7, ↓x_86_10, ↓x_86_13, ↓x_86_16, ↓x_86_17, up1_same, up1_ne, up1_up1, us_0, us_1, us_2, us_3, us_4, us_5, us_6, us_7, us_8, us_9, us_10, us_11, rw_zero, rw_succ, Option.toList_some, Option.toList_none, List.cons_append, List.nil_append, cat_int, cat_ref, cat_null, iI_add, iI_sub, iI_mul, iI_neg, List.length_cons, List.length_nil, ↓reduceIte, va_rf_some, Int.reduceToNat, md_0, md_1, md_2, md_3, md_4, md_5, md_6, md_7, md_8, md_9, md_10, md_11, md_12, md_13, md_14, md_15, md_16, md_17, md_18, md_19, md_20, md_21, md_22, md_23, md_24, md_25, md_26, md_27, md_28, md_29, md_30, md_31, mu_0, mu_3, mu_7, mu_9, mu_12, mu_13, mu_14, mu_15, mu_16, mu_17, mu_18, mu_23, mu_24, mu_26, mu_27, mu_28, mu_29, i10, iI_eq, iI_lt, iI_cl, if_true, if_false, and_self, k_in, e]
    exact hQ _ A h.th (fun _ _ => rfl)
end
