/-! FAULT -/
def dH (A : Nat → Nat → Int32) (D : List Int) : Prop := D.length ≤ 40 ∧ ∀ j : Nat, j < D.length → A 12 j = iI (D.getD j 0)
def hqD (t : mL) (V : Nat → Nat → Value) (A : Nat → Nat → Int32) (P : Nat → Nat → Option Nat) (Q : Option Value → mM → Prop) (l u : Int) (r : Int × List Int) : Prop := ∀ (V' : Nat → Nat → Value) (A' : Nat → Nat → Int32), V' 3 = exR l r.2.length u → (∀ a, a ≠ 3 → V' a = V a) → dH A' r.2 → (∀ a, a ≠ 12 → A' a = A a) → Q (some (.int (iI r.1))) (t, V', A', P)
section
variable {d : Nat} {t : mL} {V : Nat → Nat → Value} {A : Nat → Nat → Int32} {P : Nat → Nat → Option Nat} {μ : mM} {Q : Option Value → mM → Prop} {T D : List Int} {it u l : Int}
theorem k_numberAt {i en : Nat} (hK : exK t) (hx : V 3 = exR T.length it u) (hH : tH A T) (hi : i < en) (he : en ≤ T.length) : Call (d + 2) 74 [.ref 3, .int (iI i), .int (iI en)] (t, V, A, P) Q = Q (some (.int (iI (nuA T i en)))) (t, V, A, P) := by
  have k0 := hK.1
  obtain ⟨k11, k11l⟩ := hK.2.2.2.2.2.1
  have hl := hH.1
  have tn1 : ((i : Nat) : Int).toNat = i := Int.toNat_natCast _
  have ci : (i : Int) + 1 = ((i + 1 : Nat) : Int) := by omega
  have tn2 : ((i + 1 : Nat) : Int).toNat = i + 1 := Int.toNat_natCast _
  obtain ⟨h1, h2, h3⟩ := hH.2 i (by omega)
  simp (disch := first | assumption | omega | exact isB_z | exact isB_o | exact iI_in' (by assumption) (by omega) (by omega) | exact cat_int _ | exact cat_ref _ | exact cat_null | decide) only [c_74, ↓x_74_0, ↓x_74_1, ↓x_74_2, up1_same, up1_ne, up1_up1, us_0, us_1, us_2, us_3, us_4, us_5, us_6, us_7, us_8, us_9, us_10, us_11, rw_zero, rw_succ, Option.toList_some, Option.toList_none, List.cons_append, List.nil_append, cat_int, cat_ref, cat_null, iI_add, iI_sub, iI_mul, iI_neg, List.length_cons, List.length_nil, ↓reduceIte, va_rf_some, exR, wiR, wkW, wkR, orR, rdR, k_isFigure hK hx hH]
  by_cases c : fg T i
  · by_cases c1 : i + 2 < en
    · have hs : nuA T i en = -1 := by unfold nuA; rw [if_pos (Or.inr c1)]
      have e1 : (2 : Int) < (en : Int) - i := by omega
      rw [if_pos c, hs]
      simp (disch := first | assumption | omega | exact isB_z | exact isB_o | exact iI_in' (by assumption) (by omega) (by omega) | exact cat_int _ | exact cat_ref _ | exact cat_null | decide) only [↓x_74_5, ↓x_74_8, ↓x_74_9, ↓x_74_10, ↓x_74_11, ↓x_74_12, ↓x_74_15, ↓x_74_16, up1_same, up1_ne, up1_up1, us_0, us_1, us_2, us_3, us_4, us_5, us_6, us_7, us_8, us_9, us_10, us_11, rw_zero, rw_succ, Option.toList_some, Option.toList_none, List.cons_append, List.nil_append, cat_int, cat_ref, cat_null, iI_add, iI_sub, iI_mul, iI_neg, List.length_cons, List.length_nil, ↓reduceIte, va_rf_some, exR, wiR, wkW, wkR, orR, rdR, iI_eq, iI_lt, iI_n0, e1, if_true]
      rw [if_neg (show ¬ (1 : Int) = 0 by omega)]
    · have e1 : ¬ (2 : Int) < (en : Int) - i := by omega
      rw [if_pos c]
      simp (disch := first | assumption | omega | exact isB_z | exact isB_o | exact iI_in' (by assumption) (by omega) (by omega) | exact cat_int _ | exact cat_ref _ | exact cat_null | decide) only [↓x_74_5, ↓x_74_8, ↓x_74_9, ↓x_74_10, ↓x_74_11, ↓x_74_12, ↓x_74_15, ↓x_74_16, ↓x_74_17, ↓x_74_18, ↓x_74_21, ↓x_74_22, ↓x_74_23, ↓x_74_25, ↓x_74_26, ↓x_74_27, ↓x_74_28, ↓x_74_29, ↓x_74_30, ↓x_74_31, up1_same, up1_ne, up1_up1, us_0, us_1, us_2, us_3, us_4, us_5, us_6, us_7, us_8, us_9, us_10, us_11, rw_zero, rw_succ, Option.toList_some, Option.toList_none, List.cons_append, List.nil_append, cat_int, cat_ref, cat_null, iI_add, iI_sub, iI_mul, iI_neg, List.length_cons, List.length_nil, ↓reduceIte, va_rf_some, exR, wiR, wkW, wkR, orR, rdR, hx, iI_eq, iI_lt, iI_n0, e1, if_false, iI_cl, tn1, h1]
      rw [if_neg (show ¬ (1 : Int) = 0 by omega)]
      by_cases c2 : en = i + 1
      · have hs : nuA T i en = T.getD i 0 - 48 := by unfold nuA; rw [if_neg (fun q => q.elim (fun q => q c) c1), if_pos c2]
        rw [if_pos (show (en : Int) - i = 1 by omega), hs]
        simp (disch := first | assumption | omega | exact isB_z | exact isB_o | exact iI_in' (by assumption) (by omega) (by omega) | exact cat_int _ | exact cat_ref _ | exact cat_null | decide) only [↓x_74_34, ↓x_74_35, up1_same, up1_ne, up1_up1, us_0, us_1, us_2, us_3, us_4, us_5, us_6, us_7, us_8, us_9, us_10, us_11, rw_zero, rw_succ, Option.toList_some, Option.toList_none, List.cons_append, List.nil_append, cat_int, cat_ref, cat_null, iI_add, iI_sub, iI_mul, iI_neg, List.length_cons, List.length_nil, ↓reduceIte, va_rf_some, exR, wiR, wkW, wkR, orR, rdR]
      · rw [if_neg (show ¬ (en : Int) - i = 1 by omega)]
        simp (disch := first | assumption | omega | exact isB_z | exact isB_o | exact iI_in' (by assumption) (by omega) (by omega) | exact cat_int _ | exact cat_ref _ | exact cat_null | decide) only [↓x_74_36, ↓x_74_37, up1_same, up1_ne, up1_up1, us_0, us_1, us_2, us_3, us_4, us_5, us_6, us_7, us_8, us_9, us_10, us_11, rw_zero, rw_succ, Option.toList_some, Option.toList_none, List.cons_append, List.nil_append, cat_int, cat_ref, cat_null, iI_add, iI_sub, iI_mul, iI_neg, List.length_cons, List.length_nil, ↓reduceIte, va_rf_some, exR, wiR, wkW, wkR, orR, rdR, iI_eq, iI_n0]
        by_cases c3 : T.getD i 0 = 48
        · have hs : nuA T i en = -1 := by unfold nuA; rw [if_neg (fun q => q.elim (fun q => q c) c1), if_neg c2, if_pos (Or.inl c3)]
          rw [if_pos (show T.getD i 0 - 48 = 0 by omega), hs]
          simp (disch := first | assumption | omega | exact isB_z | exact isB_o | exact iI_in' (by assumption) (by omega) (by omega) | exact cat_int _ | exact cat_ref _ | exact cat_null | decide) only [↓x_74_50, ↓x_74_51, up1_same, up1_ne, up1_up1, us_0, us_1, us_2, us_3, us_4, us_5, us_6, us_7, us_8, us_9, us_10, us_11, rw_zero, rw_succ, Option.toList_some, Option.toList_none, List.cons_append, List.nil_append, cat_int, cat_ref, cat_null, iI_add, iI_sub, iI_mul, iI_neg, List.length_cons, List.length_nil, ↓reduceIte, va_rf_some, exR, wiR, wkW, wkR, orR, rdR]
        · rw [if_neg (show ¬ T.getD i 0 - 48 = 0 by omega)]
          simp (disch := first | assumption | omega | exact isB_z | exact isB_o | exact iI_in' (by assumption) (by omega) (by omega) | exact cat_int _ | exact cat_ref _ | exact cat_null | decide) only [↓x_74_40, ↓x_74_41, ↓x_74_42, ↓x_74_43, ↓x_74_44, up1_same, up1_ne, up1_up1, us_0, us_1, us_2, us_3, us_4, us_5, us_6, us_7, us_8, us_9, us_10, us_11, rw_zero, rw_succ, Option.toList_some, Option.toList_none, List.cons_append, List.nil_append, cat_int, cat_ref, cat_null, iI_add, iI_sub, iI_mul, iI_neg, List.length_cons, List.length_nil, ↓reduceIte, va_rf_some, exR, wiR, wkW, wkR, orR, rdR, ci, k_isFigure hK hx hH]
          by_cases c4 : fg T (i + 1)
          · have hs : nuA T i en = 10 * (T.getD i 0 - 48) + T.getD (i + 1) 0 - 48 := by unfold nuA; rw [if_neg (fun q => q.elim (fun q => q c) c1), if_neg c2, if_neg (fun q => q.elim c3 (fun q => q c4))]
            obtain ⟨g1, g2, g3⟩ := hH.2 (i + 1) c4.1
            rw [if_pos c4, hs]
            simp (disch := first | assumption | omega | exact isB_z | exact isB_o | exact iI_in' (by assumption) (by omega) (by omega) | exact cat_int _ | exact cat_ref _ | exact cat_null | decide) only [↓x_74_47, ↓x_74_50, ↓x_74_51, ↓x_74_52, ↓x_74_54, ↓x_74_55, ↓x_74_56, ↓x_74_57, ↓x_74_60, ↓x_74_61, ↓x_74_62, ↓x_74_63, ↓x_74_64, ↓x_74_65, ↓x_74_67, ↓x_74_68, up1_same, up1_ne, up1_up1, us_0, us_1, us_2, us_3, us_4, us_5, us_6, us_7, us_8, us_9, us_10, us_11, rw_zero, rw_succ, Option.toList_some, Option.toList_none, List.cons_append, List.nil_append, cat_int, cat_ref, cat_null, iI_add, iI_sub, iI_mul, iI_neg, List.length_cons, List.length_nil, ↓reduceIte, va_rf_some, exR, wiR, wkW, wkR, orR, rdR, hx, iI_eq, iI_n0, ci, iI_cl, tn2, g1]
            rw [if_neg (show ¬ (1 : Int) = 0 by omega)]
          · have hs : nuA T i en = -1 := by unfold nuA; rw [if_neg (fun q => q.elim (fun q => q c) c1), if_neg c2, if_pos (Or.inr c4)]
            rw [if_neg c4, hs]
            simp (disch := first | assumption | omega | exact isB_z | exact isB_o | exact iI_in' (by assumption) (by omega) (by omega) | exact cat_int _ | exact cat_ref _ | exact cat_null | decide) only [↓x_74_47, ↓x_74_50, ↓x_74_51, up1_same, up1_ne, up1_up1, us_0, us_1, us_2, us_3, us_4, us_5, us_6, us_7, us_8, us_9, us_10, us_11, rw_zero, rw_succ, Option.toList_some, Option.toList_none, List.cons_append, List.nil_append, cat_int, cat_ref, cat_null, iI_add, iI_sub, iI_mul, iI_neg, List.length_cons, List.length_nil, ↓reduceIte, va_rf_some, exR, wiR, wkW, wkR, orR, rdR, iI_eq, iI_n0, if_true]
  · have hs : nuA T i en = -1 := by unfold nuA; rw [if_pos (Or.inl c)]
    rw [if_neg c, hs]
    simp (disch := first | assumption | omega | exact isB_z | exact isB_o | exact iI_in' (by assumption) (by omega) (by omega) | exact cat_int _ | exact cat_ref _ | exact cat_null | decide) only [↓x_74_5, ↓x_74_8, ↓x_74_9, ↓x_74_10, ↓x_74_11, ↓x_74_12, ↓x_74_15, ↓x_74_16, up1_same, up1_ne, up1_up1, us_0, us_1, us_2, us_3, us_4, us_5, us_6, us_7, us_8, us_9, us_10, us_11, rw_zero, rw_succ, Option.toList_some, Option.toList_none, List.cons_append, List.nil_append, cat_int, cat_ref, cat_null, iI_add, iI_sub, iI_mul, iI_neg, List.length_cons, List.length_nil, ↓reduceIte, va_rf_some, exR, wiR, wkW, wkR, orR, rdR, iI_eq, iI_n0, if_true]
theorem nuA_b {i en : Nat} (hH : tH A T) (hi : i < T.length) : -1 ≤ nuA T i en ∧ nuA T i en < 3000 := by
  obtain ⟨h1, h2, h3⟩ := hH.2 i hi
  unfold nuA
  split
  · omega
  · next c =>
    have hf : fg T i := Decidable.byContradiction fun q => c (Or.inl q)
    have := hf.2
    split
    · omega
    · split
      · omega
      · next c4 =>
        have hf2 : fg T (i + 1) := Decidable.byContradiction fun q => c4 (Or.inr q)
        have := hf2.2
        omega
theorem k_afterNumber {n b k : Int} (hK : exK t) (hx : V 3 = exR l D.length u) (hD : dH A D) (hn : -1 ≤ n ∧ n < 3000) (hb : 0 ≤ b ∧ b < 100) (hk : 0 ≤ k ∧ k < 100) (hQ : hqD t V A P Q l u (afN D n b k)) : Call (d + 1) 73 [.ref 3, .int (iI n), .int (iI b), .int (iI k)] (t, V, A, P) Q := by
  have k0 := hK.1
  obtain ⟨k12, k12l⟩ := hK.2.2.2.2.2.2.1
  have hl := hD.1
  unfold afN at hQ
  by_cases c : n < 0
  · rw [if_pos (Or.inl c)] at hQ
    simp (disch := first | assumption | omega | exact isB_z | exact isB_o | exact iI_in' (by assumption) (by omega) (by omega) | exact cat_int _ | exact cat_ref _ | exact cat_null | decide) only [c_73, ↓x_73_0, ↓x_73_1, ↓x_73_4, ↓x_73_5, ↓x_73_6, ↓x_73_9, ↓x_73_10, ↓x_73_13, ↓x_73_16, ↓x_73_17, ↓x_73_20, ↓x_73_22, ↓x_73_25, ↓x_73_26, up1_same, up1_ne, up1_up1, us_0, us_1, us_2, us_3, us_4, us_5, us_6, us_7, us_8, us_9, us_10, us_11, rw_zero, rw_succ, Option.toList_some, Option.toList_none, List.cons_append, List.nil_append, cat_int, cat_ref, cat_null, iI_add, iI_sub, iI_mul, iI_neg, List.length_cons, List.length_nil, ↓reduceIte, va_rf_some, exR, wiR, wkW, wkR, orR, rdR, hx, iI_lt, iI_le, iI_n0, c, if_true]
    exact hQ V A hx (fun _ _ => rfl) hD (fun _ _ => rfl)
  · by_cases c1 : n < k
    · have e1 : ¬ (D.length : Int) < 0 := by omega
      by_cases c2 : 40 ≤ D.length
      · have e2 : ¬ (D.length : Int) < 40 := by omega
        rw [if_pos (Or.inr (Or.inr c2))] at hQ
        simp (disch := first | assumption | omega | exact isB_z | exact isB_o | exact iI_in' (by assumption) (by omega) (by omega) | exact cat_int _ | exact cat_ref _ | exact cat_null | decide) only [c_73, ↓x_73_0, ↓x_73_1, ↓x_73_4, ↓x_73_5, ↓x_73_6, ↓x_73_9, ↓x_73_10, ↓x_73_13, ↓x_73_16, ↓x_73_17, ↓x_73_20, ↓x_73_22, ↓x_73_25, ↓x_73_26, up1_same, up1_ne, up1_up1, us_0, us_1, us_2, us_3, us_4, us_5, us_6, us_7, us_8, us_9, us_10, us_11, rw_zero, rw_succ, Option.toList_some, Option.toList_none, List.cons_append, List.nil_append, cat_int, cat_ref, cat_null, iI_add, iI_sub, iI_mul, iI_neg, List.length_cons, List.length_nil, ↓reduceIte, va_rf_some, exR, wiR, wkW, wkR, orR, rdR, hx, iI_lt, iI_le, iI_n0, c, c1, e1, e2, if_true, if_false]
        exact hQ V A hx (fun _ _ => rfl) hD (fun _ _ => rfl)
      · have e2 : (D.length : Int) < 40 := by omega
        have tn1 : ((D.length : Nat) : Int).toNat = D.length := Int.toNat_natCast _
        rw [if_neg (by omega)] at hQ
        simp (disch := first | assumption | omega | exact isB_z | exact isB_o | exact iI_in' (by assumption) (by omega) (by omega) | exact cat_int _ | exact cat_ref _ | exact cat_null | decide) only [c_73, ↓x_73_0, ↓x_73_1, ↓x_73_4, ↓x_73_5, ↓x_73_6, ↓x_73_9, ↓x_73_10, ↓x_73_13, ↓x_73_16, ↓x_73_17, ↓x_73_20, ↓x_73_22, up1_same, up1_ne, up1_up1, us_0, us_1, us_2, us_3, us_4, us_5, us_6, us_7, us_8, us_9, us_10, us_11, rw_zero, rw_succ, Option.toList_some, Option.toList_none, List.cons_append, List.nil_append, cat_int, cat_ref, cat_null, iI_add, iI_sub, iI_mul, iI_neg, List.length_cons, List.length_nil, ↓reduceIte, va_rf_some, exR, wiR, wkW, wkR, orR, rdR, hx, iI_lt, iI_le, iI_n0, c, c1, e1, e2, if_true, if_false]
        simp (disch := first | assumption | omega | exact isB_z | exact isB_o | exact iI_in' (by assumption) (by omega) (by omega) | exact cat_int _ | exact cat_ref _ | exact cat_null | decide) only [↓x_73_27, ↓x_73_28, ↓x_73_31, ↓x_73_32, ↓x_73_35, ↓x_73_36, ↓x_73_37, ↓x_73_38, ↓x_73_39, ↓x_73_40, ↓x_73_41, ↓x_73_44, ↓x_73_45, ↓x_73_46, ↓x_73_49, ↓x_73_50, up1_same, up1_ne, up1_up1, us_0, us_1, us_2, us_3, us_4, us_5, us_6, us_7, us_8, us_9, us_10, us_11, rw_zero, rw_succ, Option.toList_some, Option.toList_none, List.cons_append, List.nil_append, cat_int, cat_ref, cat_null, iI_add, iI_sub, iI_mul, iI_neg, List.length_cons, List.length_nil, ↓reduceIte, va_rf_some, exR, wiR, wkW, wkR, orR, rdR, hx, iI_cl, tn1]
        refine hQ _ _ ?_ (fun a ha => up1_ne ha) ⟨by simp; omega, fun j hj => ?_⟩ (fun a ha => up1_ne ha)
        · rw [up1_same]; simp
        · have hj' : j < D.length + 1 := by simpa using hj
          rw [up1_same]
          by_cases g : j = D.length
          · subst g; rw [upd_same, getD_app_eq]
          · rw [upd_ne g, getD_app_lt (by omega)]; exact hD.2 j (by omega)
    · rw [if_pos (Or.inr (Or.inl (by omega)))] at hQ
      simp (disch := first | assumption | omega | exact isB_z | exact isB_o | exact iI_in' (by assumption) (by omega) (by omega) | exact cat_int _ | exact cat_ref _ | exact cat_null | decide) only [c_73, ↓x_73_0, ↓x_73_1, ↓x_73_4, ↓x_73_5, ↓x_73_6, ↓x_73_9, ↓x_73_10, ↓x_73_13, ↓x_73_16, ↓x_73_17, ↓x_73_20, ↓x_73_22, ↓x_73_25, ↓x_73_26, up1_same, up1_ne, up1_up1, us_0, us_1, us_2, us_3, us_4, us_5, us_6, us_7, us_8, us_9, us_10, us_11, rw_zero, rw_succ, Option.toList_some, Option.toList_none, List.cons_append, List.nil_append, cat_int, cat_ref, cat_null, iI_add, iI_sub, iI_mul, iI_neg, List.length_cons, List.length_nil, ↓reduceIte, va_rf_some, exR, wiR, wkW, wkR, orR, rdR, hx, iI_lt, iI_le, iI_n0, c, c1, if_false]
      exact hQ V A hx (fun _ _ => rfl) hD (fun _ _ => rfl)
set_option maxHeartbeats 400000 in
theorem k_afterToken {i en : Nat} {due : Int} (hK : exK t) (hx : V 3 = exR T.length D.length u) (hH : tH A T) (hD : dH A D) (hd : 0 ≤ due ∧ due ≤ 3) (hi : i < en) (he : en ≤ T.length) (hQ : hqD t V A P Q T.length u (afT T due i en D)) : Call (d + 3) 72 [.ref 3, .int (iI due), .int (iI i), .int (iI en)] (t, V, A, P) Q := by
  have k0 := hK.1
  obtain ⟨k11, k11l⟩ := hK.2.2.2.2.2.1
  have hl := hH.1
  have tn1 : ((i : Nat) : Int).toNat = i := Int.toNat_natCast _
  obtain ⟨h1, h2, h3⟩ := hH.2 i (by omega)
  have hn := nuA_b (en := en) hH (show i < T.length by omega)
  have e1 : ¬ (i : Int) < 0 := by omega
  have e2 : (i : Int) < 120 := by omega
  unfold afT at hQ
  simp (disch := first | assumption | omega | exact isB_z | exact isB_o | exact iI_in' (by assumption) (by omega) (by omega) | exact cat_int _ | exact cat_ref _ | exact cat_null | decide) only [c_72, ↓x_72_0, ↓x_72_1, ↓x_72_4, ↓x_72_5, ↓x_72_7, ↓x_72_10, ↓x_72_11, ↓x_72_12, ↓x_72_13, ↓x_72_16, ↓x_72_17, ↓x_72_18, ↓x_72_20, ↓x_72_21, up1_same, up1_ne, up1_up1, us_0, us_1, us_2, us_3, us_4, us_5, us_6, us_7, us_8, us_9, us_10, us_11, rw_zero, rw_succ, Option.toList_some, Option.toList_none, List.cons_append, List.nil_append, cat_int, cat_ref, cat_null, iI_add, iI_sub, iI_mul, iI_neg, List.length_cons, List.length_nil, ↓reduceIte, va_rf_some, exR, wiR, wkW, wkR, orR, rdR, hx, iI_lt, iI_eq, iI_n0, e1, e2, if_true, if_false, iI_cl, tn1, h1]
  by_cases d0 : due = 0
  · simp only [if_pos d0] at hQ ⊢
    simp (disch := first | assumption | omega | exact isB_z | exact isB_o | exact iI_in' (by assumption) (by omega) (by omega) | exact cat_int _ | exact cat_ref _ | exact cat_null | decide) only [↓x_72_48, ↓x_72_50, ↓x_72_52, ↓x_72_55, ↓x_72_56, ↓x_72_57, ↓x_72_59, ↓x_72_61, ↓x_72_64, ↓x_72_65, ↓x_72_68, ↓x_72_69, up1_same, up1_ne, up1_up1, us_0, us_1, us_2, us_3, us_4, us_5, us_6, us_7, us_8, us_9, us_10, us_11, rw_zero, rw_succ, Option.toList_some, Option.toList_none, List.cons_append, List.nil_append, cat_int, cat_ref, cat_null, iI_add, iI_sub, iI_mul, iI_neg, List.length_cons, List.length_nil, ↓reduceIte, va_rf_some, exR, wiR, wkW, wkR, orR, rdR, iI_eq]
    by_cases c1 : T.getD i 0 = 100
    · simp only [if_pos c1] at hQ ⊢; exact hQ V A hx (fun _ _ => rfl) hD (fun _ _ => rfl)
    · by_cases c2 : T.getD i 0 = 107
      · simp only [if_neg c1, if_pos c2] at hQ ⊢; exact hQ V A hx (fun _ _ => rfl) hD (fun _ _ => rfl)
      · simp only [if_neg c1, if_neg c2] at hQ ⊢; exact hQ V A hx (fun _ _ => rfl) hD (fun _ _ => rfl)
  by_cases d1 : due = 1
  · simp only [if_neg d0, if_pos d1] at hQ ⊢
    simp (disch := first | assumption | omega | exact isB_z | exact isB_o | exact iI_in' (by assumption) (by omega) (by omega) | exact cat_int _ | exact cat_ref _ | exact cat_null | decide) only [↓x_72_70, ↓x_72_71, ↓x_72_72, ↓x_72_73, ↓x_72_74, up1_same, up1_ne, up1_up1, us_0, us_1, us_2, us_3, us_4, us_5, us_6, us_7, us_8, us_9, us_10, us_11, rw_zero, rw_succ, Option.toList_some, Option.toList_none, List.cons_append, List.nil_append, cat_int, cat_ref, cat_null, iI_add, iI_sub, iI_mul, iI_neg, List.length_cons, List.length_nil, ↓reduceIte, va_rf_some, exR, wiR, wkW, wkR, orR, rdR]
    rw [k_numberAt hK hx hH hi he]
    simp (disch := first | assumption | omega | exact isB_z | exact isB_o | exact iI_in' (by assumption) (by omega) (by omega) | exact cat_int _ | exact cat_ref _ | exact cat_null | decide) only [↓x_72_77, ↓x_72_78, ↓x_72_80, up1_same, up1_ne, up1_up1, us_0, us_1, us_2, us_3, us_4, us_5, us_6, us_7, us_8, us_9, us_10, us_11, rw_zero, rw_succ, Option.toList_some, Option.toList_none, List.cons_append, List.nil_append, cat_int, cat_ref, cat_null, iI_add, iI_sub, iI_mul, iI_neg, List.length_cons, List.length_nil, ↓reduceIte, va_rf_some, exR, wiR, wkW, wkR, orR, rdR]
    refine k_afterNumber hK hx hD hn (by omega) (by omega) (fun V' A' q1 q2 q3 q4 => ?_)
    simp (disch := first | assumption | omega | exact isB_z | exact isB_o | exact iI_in' (by assumption) (by omega) (by omega) | exact cat_int _ | exact cat_ref _ | exact cat_null | decide) only [↓x_72_83, up1_same, up1_ne, up1_up1, us_0, us_1, us_2, us_3, us_4, us_5, us_6, us_7, us_8, us_9, us_10, us_11, rw_zero, rw_succ, Option.toList_some, Option.toList_none, List.cons_append, List.nil_append, cat_int, cat_ref, cat_null, iI_add, iI_sub, iI_mul, iI_neg, List.length_cons, List.length_nil, ↓reduceIte, va_rf_some, exR, wiR, wkW, wkR, orR, rdR]
    exact hQ V' A' q1 q2 q3 q4
  by_cases d2 : due = 2
  · simp only [if_neg d0, if_neg d1, if_pos d2] at hQ ⊢
    simp (disch := first | assumption | omega | exact isB_z | exact isB_o | exact iI_in' (by assumption) (by omega) (by omega) | exact cat_int _ | exact cat_ref _ | exact cat_null | decide) only [↓x_72_84, ↓x_72_85, ↓x_72_86, ↓x_72_87, ↓x_72_88, up1_same, up1_ne, up1_up1, us_0, us_1, us_2, us_3, us_4, us_5, us_6, us_7, us_8, us_9, us_10, us_11, rw_zero, rw_succ, Option.toList_some, Option.toList_none, List.cons_append, List.nil_append, cat_int, cat_ref, cat_null, iI_add, iI_sub, iI_mul, iI_neg, List.length_cons, List.length_nil, ↓reduceIte, va_rf_some, exR, wiR, wkW, wkR, orR, rdR]
    rw [k_numberAt hK hx hH hi he]
    simp (disch := first | assumption | omega | exact isB_z | exact isB_o | exact iI_in' (by assumption) (by omega) (by omega) | exact cat_int _ | exact cat_ref _ | exact cat_null | decide) only [↓x_72_91, ↓x_72_93, ↓x_72_94, up1_same, up1_ne, up1_up1, us_0, us_1, us_2, us_3, us_4, us_5, us_6, us_7, us_8, us_9, us_10, us_11, rw_zero, rw_succ, Option.toList_some, Option.toList_none, List.cons_append, List.nil_append, cat_int, cat_ref, cat_null, iI_add, iI_sub, iI_mul, iI_neg, List.length_cons, List.length_nil, ↓reduceIte, va_rf_some, exR, wiR, wkW, wkR, orR, rdR]
    refine k_afterNumber hK hx hD hn (by omega) (by omega) (fun V' A' q1 q2 q3 q4 => ?_)
    simp (disch := first | assumption | omega | exact isB_z | exact isB_o | exact iI_in' (by assumption) (by omega) (by omega) | exact cat_int _ | exact cat_ref _ | exact cat_null | decide) only [↓x_72_97, up1_same, up1_ne, up1_up1, us_0, us_1, us_2, us_3, us_4, us_5, us_6, us_7, us_8, us_9, us_10, us_11, rw_zero, rw_succ, Option.toList_some, Option.toList_none, List.cons_append, List.nil_append, cat_int, cat_ref, cat_null, iI_add, iI_sub, iI_mul, iI_neg, List.length_cons, List.length_nil, ↓reduceIte, va_rf_some, exR, wiR, wkW, wkR, orR, rdR]
    exact hQ V' A' q1 q2 q3 q4
  simp only [if_neg d0, if_neg d1, if_neg d2] at hQ ⊢
  simp (disch := first | assumption | omega | exact isB_z | exact isB_o | exact iI_in' (by assumption) (by omega) (by omega) | exact cat_int _ | exact cat_ref _ | exact cat_null | decide) only [↓x_72_98, ↓x_72_100, ↓x_72_102, ↓x_72_105, ↓x_72_106, ↓x_72_109, ↓x_72_110, up1_same, up1_ne, up1_up1, us_0, us_1, us_2, us_3, us_4, us_5, us_6, us_7, us_8, us_9, us_10, us_11, rw_zero, rw_succ, Option.toList_some, Option.toList_none, List.cons_append, List.nil_append, cat_int, cat_ref, cat_null, iI_add, iI_sub, iI_mul, iI_neg, List.length_cons, List.length_nil, ↓reduceIte, va_rf_some, exR, wiR, wkW, wkR, orR, rdR, iI_eq]
  by_cases c1 : T.getD i 0 = 59
  · simp only [if_pos c1] at hQ ⊢; exact hQ V A hx (fun _ _ => rfl) hD (fun _ _ => rfl)
  · simp only [if_neg c1] at hQ ⊢; exact hQ V A hx (fun _ _ => rfl) hD (fun _ _ => rfl)
theorem afT_b (T : List Int) (due : Int) (i en : Nat) {D : List Int} (hD : D.length ≤ 40) : (-1 ≤ (afT T due i en D).1 ∧ (afT T due i en D).1 ≤ 3) ∧ (afT T due i en D).2.length ≤ 40 := by
  have hh : ∀ n b k : Int, (-1 ≤ (afN D n b k).1 ∧ (afN D n b k).1 ≤ 3) ∧ (afN D n b k).2.length ≤ 40 := by
    intro n b k
    unfold afN
    split
    · simp only; omega
    · simp; omega
  unfold afT
  split
  · split
    · simp only; omega
    · split <;> simp only <;> omega
  · split
    · exact hh _ _ _
    · split
      · exact hh _ _ _
      · split <;> simp only <;> omega
end
