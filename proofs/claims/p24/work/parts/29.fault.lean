/-! FAULT -/
def dH (A : Nat → Nat → Int32) (D : List Int) : Prop := D.length ≤ 40 ∧ ∀ j : Nat, j < D.length → A 12 j = iI (D.getD j 0)
def hqD (t : mL) (V : Nat → Nat → Value) (A : Nat → Nat → Int32) (P : Nat → Nat → Option Nat) (Q : Option Value → mM → Prop) (l u : Int) (r : Int × List Int) : Prop := ∀ (V' : Nat → Nat → Value) (A' : Nat → Nat → Int32), V' 3 = exR l r.2.length u → (∀ a, a ≠ 3 → V' a = V a) → dH A' r.2 → (∀ a, a ≠ 12 → A' a = A a) → Q (some (.int (iI r.1))) (t, V', A', P)
section
variable {d : Nat} {t : mL} {V : Nat → Nat → Value} {A : Nat → Nat → Int32} {P : Nat → Nat → Option Nat} {μ : mM} {Q : Option Value → mM → Prop} {T D : List Int} {it u l : Int}
theorem nuA_v {T : List Int} {i : Nat} : nuA T i (tkE T i) = if fiA T i < 0 ∨ fiA T (i + 1 : Nat) < 0 then fiA T i else if fiA T i = 0 ∨ 0 ≤ fiA T (i + 2 : Nat) then -1 else 10 * fiA T i + fiA T (i + 1 : Nat) := by
  unfold nuA
  by_cases c : fg T i
  · have h0 := fiA_y c
    have g0 := c.2
    have hi := c.1
    rw [tkE_y c]
    by_cases c1 : fg T (i + 1)
    · have h1 := fiA_y c1
      have g1 := c1.2
      have hi1 := c1.1
      rw [gE_y c1, show i + 1 + 1 = i + 2 from rfl]
      have hb := gE_b (T := T) (j := i + 2) (by omega)
      rw [if_neg (show ¬ (fiA T i < 0 ∨ fiA T (i + 1 : Nat) < 0) by omega)]
      by_cases c2 : fg T (i + 2)
      · have h2 := fiA_y c2
        have g2 := c2.2
        have hb2 := gE_b (T := T) (j := i + 2 + 1) (by have := c2.1; omega)
        have hy := gE_y c2
        rw [if_pos (Or.inr (by omega)), if_pos (Or.inr (by omega))]
      · have h2 := fiA_n c2
        have hn := gE_n c2
        rw [hn]
        rw [if_neg (fun q => q.elim (fun q => q c) (fun q => by omega)), if_neg (by omega)]
        by_cases c3 : T.getD i 0 = 48
        · rw [if_pos (Or.inl c3), if_pos (Or.inl (by omega))]
        · rw [if_neg (fun q => q.elim c3 (fun q => q c1)), if_neg (by omega), h0, h1]; omega
    · have h1 := fiA_n c1
      rw [gE_n c1, if_neg (fun q => q.elim (fun q => q c) (fun q => by omega)), if_pos rfl, if_pos (Or.inr (by omega)), h0]
  · have h0 := fiA_n c
    rw [if_pos (Or.inl c), if_pos (Or.inl (by omega)), h0]
theorem k_numberAt {i : Nat} (hK : exK t) (hx : V 3 = exR T.length it u) (hH : tH A T) (hi : i < T.length) : Call (d + 3) 69 [.ref 3, .int (iI i)] (t, V, A, P) Q = Q (some (.int (iI (nuA T i (tkE T i))))) (t, V, A, P) := by
  have k0 := hK.1
  have hl := hH.1
  have c1 : (i : Int) + 1 = ((i + 1 : Nat) : Int) := by omega
  have c2 : (i : Int) + 2 = ((i + 2 : Nat) : Int) := by omega
  simp (disch := first | assumption | omega | exact isB_z | exact isB_o | exact iI_in' (by assumption) (by omega) (by omega) | exact cat_int _ | exact cat_ref _ | exact cat_null | decide) only [c_69, ↓x_69_0, ↓x_69_1, ↓x_69_2, up1_same, up1_ne, up1_up1, us_0, us_1, us_2, us_3, us_4, us_5, us_6, us_7, us_8, us_9, us_10, us_11, rw_zero, rw_succ, Option.toList_some, Option.toList_none, List.cons_append, List.nil_append, cat_int, cat_ref, cat_null, iI_add, iI_sub, iI_mul, iI_neg, List.length_cons, List.length_nil, ↓reduceIte, va_rf_some, exR, wiR, wkW, wkR, orR, rdR, k_figureAt hK hx hH (show -1 ≤ (i : Int) ∧ (i : Int) ≤ 200 by omega)]
  simp (disch := first | assumption | omega | exact isB_z | exact isB_o | exact iI_in' (by assumption) (by omega) (by omega) | exact cat_int _ | exact cat_ref _ | exact cat_null | decide) only [↓x_69_5, ↓x_69_6, ↓x_69_7, ↓x_69_8, ↓x_69_9, ↓x_69_10, up1_same, up1_ne, up1_up1, us_0, us_1, us_2, us_3, us_4, us_5, us_6, us_7, us_8, us_9, us_10, us_11, rw_zero, rw_succ, Option.toList_some, Option.toList_none, List.cons_append, List.nil_append, cat_int, cat_ref, cat_null, iI_add, iI_sub, iI_mul, iI_neg, List.length_cons, List.length_nil, ↓reduceIte, va_rf_some, exR, wiR, wkW, wkR, orR, rdR, c1, k_figureAt hK hx hH (show -1 ≤ ((i + 1 : Nat) : Int) ∧ ((i + 1 : Nat) : Int) ≤ 200 by omega)]
  rw [nuA_v]
  have b0 := fiA_b T i
  have b1 := fiA_b T (i + 1 : Nat)
  have b2 := fiA_b T (i + 2 : Nat)
  have kf : ∀ {Q : Option Value → mM → Prop} {d : Nat}, Call (d + 2) 70 [.ref 3, .int (iI ((i + 2 : Nat) : Int))] (t, V, A, P) Q = Q (some (.int (iI (fiA T (i + 2 : Nat))))) (t, V, A, P) := k_figureAt hK hx hH (show -1 ≤ ((i + 2 : Nat) : Int) ∧ ((i + 2 : Nat) : Int) ≤ 200 by omega)
  generalize fiA T i = f0 at b0 ⊢
  generalize fiA T (i + 1 : Nat) = f1 at b1 ⊢
  generalize fiA T (i + 2 : Nat) = f2 at b2 kf ⊢
  by_cases d0 : f0 < 0
  · rw [if_pos (Or.inl d0)]
    simp (disch := first | assumption | omega | exact isB_z | exact isB_o | exact iI_in' (by assumption) (by omega) (by omega) | exact cat_int _ | exact cat_ref _ | exact cat_null | decide) only [↓x_69_13, ↓x_69_14, ↓x_69_15, ↓x_69_22, ↓x_69_23, up1_same, up1_ne, up1_up1, us_0, us_1, us_2, us_3, us_4, us_5, us_6, us_7, us_8, us_9, us_10, us_11, rw_zero, rw_succ, Option.toList_some, Option.toList_none, List.cons_append, List.nil_append, cat_int, cat_ref, cat_null, iI_add, iI_sub, iI_mul, iI_neg, List.length_cons, List.length_nil, ↓reduceIte, va_rf_some, exR, wiR, wkW, wkR, orR, rdR, iI_lt, d0, if_true]
  · by_cases d1 : f1 < 0
    · rw [if_pos (Or.inr d1)]
      simp (disch := first | assumption | omega | exact isB_z | exact isB_o | exact iI_in' (by assumption) (by omega) (by omega) | exact cat_int _ | exact cat_ref _ | exact cat_null | decide) only [↓x_69_13, ↓x_69_14, ↓x_69_15, ↓x_69_18, ↓x_69_19, ↓x_69_22, ↓x_69_23, up1_same, up1_ne, up1_up1, us_0, us_1, us_2, us_3, us_4, us_5, us_6, us_7, us_8, us_9, us_10, us_11, rw_zero, rw_succ, Option.toList_some, Option.toList_none, List.cons_append, List.nil_append, cat_int, cat_ref, cat_null, iI_add, iI_sub, iI_mul, iI_neg, List.length_cons, List.length_nil, ↓reduceIte, va_rf_some, exR, wiR, wkW, wkR, orR, rdR, iI_lt, d0, d1, if_true, if_false]
    · rw [if_neg (by omega)]
      simp (disch := first | assumption | omega | exact isB_z | exact isB_o | exact iI_in' (by assumption) (by omega) (by omega) | exact cat_int _ | exact cat_ref _ | exact cat_null | decide) only [↓x_69_13, ↓x_69_14, ↓x_69_15, ↓x_69_18, ↓x_69_19, ↓x_69_24, ↓x_69_25, ↓x_69_26, ↓x_69_27, ↓x_69_28, up1_same, up1_ne, up1_up1, us_0, us_1, us_2, us_3, us_4, us_5, us_6, us_7, us_8, us_9, us_10, us_11, rw_zero, rw_succ, Option.toList_some, Option.toList_none, List.cons_append, List.nil_append, cat_int, cat_ref, cat_null, iI_add, iI_sub, iI_mul, iI_neg, List.length_cons, List.length_nil, ↓reduceIte, va_rf_some, exR, wiR, wkW, wkR, orR, rdR, iI_lt, d0, d1, if_false, c2, kf]
      by_cases d2 : f2 < 0
      · by_cases d3 : f0 = 0
        · rw [if_pos (Or.inl d3)]
          simp (disch := first | assumption | omega | exact isB_z | exact isB_o | exact iI_in' (by assumption) (by omega) (by omega) | exact cat_int _ | exact cat_ref _ | exact cat_null | decide) only [↓x_69_31, ↓x_69_38, ↓x_69_39, ↓x_69_41, ↓x_69_42, ↓x_69_45, ↓x_69_47, ↓x_69_50, ↓x_69_51, ↓x_69_60, up1_same, up1_ne, up1_up1, us_0, us_1, us_2, us_3, us_4, us_5, us_6, us_7, us_8, us_9, us_10, us_11, rw_zero, rw_succ, Option.toList_some, Option.toList_none, List.cons_append, List.nil_append, cat_int, cat_ref, cat_null, iI_add, iI_sub, iI_mul, iI_neg, List.length_cons, List.length_nil, ↓reduceIte, va_rf_some, exR, wiR, wkW, wkR, orR, rdR, iI_lt, iI_eq, d2, d3, if_true]
        · rw [if_neg (by omega)]
          simp (disch := first | assumption | omega | exact isB_z | exact isB_o | exact iI_in' (by assumption) (by omega) (by omega) | exact cat_int _ | exact cat_ref _ | exact cat_null | decide) only [↓x_69_31, ↓x_69_38, ↓x_69_39, ↓x_69_41, ↓x_69_42, ↓x_69_45, ↓x_69_47, ↓x_69_54, ↓x_69_56, ↓x_69_57, ↓x_69_58, ↓x_69_59, ↓x_69_60, up1_same, up1_ne, up1_up1, us_0, us_1, us_2, us_3, us_4, us_5, us_6, us_7, us_8, us_9, us_10, us_11, rw_zero, rw_succ, Option.toList_some, Option.toList_none, List.cons_append, List.nil_append, cat_int, cat_ref, cat_null, iI_add, iI_sub, iI_mul, iI_neg, List.length_cons, List.length_nil, ↓reduceIte, va_rf_some, exR, wiR, wkW, wkR, orR, rdR, iI_lt, iI_eq, d2, d3, if_true, if_false]
      · rw [if_pos (Or.inr (by omega))]
        by_cases d3 : f0 = 0
        · simp (disch := first | assumption | omega | exact isB_z | exact isB_o | exact iI_in' (by assumption) (by omega) (by omega) | exact cat_int _ | exact cat_ref _ | exact cat_null | decide) only [↓x_69_31, ↓x_69_34, ↓x_69_35, ↓x_69_38, ↓x_69_39, ↓x_69_41, ↓x_69_42, ↓x_69_45, ↓x_69_47, ↓x_69_50, ↓x_69_51, ↓x_69_60, up1_same, up1_ne, up1_up1, us_0, us_1, us_2, us_3, us_4, us_5, us_6, us_7, us_8, us_9, us_10, us_11, rw_zero, rw_succ, Option.toList_some, Option.toList_none, List.cons_append, List.nil_append, cat_int, cat_ref, cat_null, iI_add, iI_sub, iI_mul, iI_neg, List.length_cons, List.length_nil, ↓reduceIte, va_rf_some, exR, wiR, wkW, wkR, orR, rdR, iI_lt, iI_eq, d2, d3, if_true, if_false]
        · simp (disch := first | assumption | omega | exact isB_z | exact isB_o | exact iI_in' (by assumption) (by omega) (by omega) | exact cat_int _ | exact cat_ref _ | exact cat_null | decide) only [↓x_69_31, ↓x_69_34, ↓x_69_35, ↓x_69_38, ↓x_69_39, ↓x_69_41, ↓x_69_42, ↓x_69_45, ↓x_69_47, ↓x_69_50, ↓x_69_51, ↓x_69_60, up1_same, up1_ne, up1_up1, us_0, us_1, us_2, us_3, us_4, us_5, us_6, us_7, us_8, us_9, us_10, us_11, rw_zero, rw_succ, Option.toList_some, Option.toList_none, List.cons_append, List.nil_append, cat_int, cat_ref, cat_null, iI_add, iI_sub, iI_mul, iI_neg, List.length_cons, List.length_nil, ↓reduceIte, va_rf_some, exR, wiR, wkW, wkR, orR, rdR, iI_lt, iI_eq, d2, d3, if_false]
          rw [if_neg (show ¬ (1 : Int) = 0 by omega)]
theorem nuA_b {i en : Nat} (hH : tH A T) (hi : i < T.length) : -1 ≤ nuA T i en ∧ nuA T i en < 3000 := by
  obtain ⟨h1, h2, h3⟩ := hH.2 i hi
  unfold nuA
  split
  · omega
  · next c =>
    have hf : fg T i := Decidable.byContradiction fun q => c (Or.inl q)
    have := hf.2
    split
    · omega
    · split
      · omega
      · next c4 =>
        have hf2 : fg T (i + 1) := Decidable.byContradiction fun q => c4 (Or.inr q)
        have := hf2.2
        omega
theorem k_afterNumber {n b k : Int} (hK : exK t) (hx : V 3 = exR l D.length u) (hD : dH A D) (hn : -1 ≤ n ∧ n < 3000) (hb : 0 ≤ b ∧ b < 100) (hk : 0 ≤ k ∧ k < 100) (hQ : hqD t V A P Q l u (afN D n b k)) : Call (d + 1) 68 [.ref 3, .int (iI n), .int (iI b), .int (iI k)] (t, V, A, P) Q := by
  have k0 := hK.1
  obtain ⟨k12, k12l⟩ := hK.2.2.2.2.2.2.1
  have hl := hD.1
  unfold afN at hQ
  by_cases c : n < 0
  · rw [if_pos (Or.inl c)] at hQ
    simp (disch := first | assumption | omega | exact isB_z | exact isB_o | exact iI_in' (by assumption) (by omega) (by omega) | exact cat_int _ | exact cat_ref _ | exact cat_null | decide) only [c_68, ↓x_68_0, ↓x_68_1, ↓x_68_4, ↓x_68_5, ↓x_68_6, ↓x_68_9, ↓x_68_10, ↓x_68_13, ↓x_68_16, ↓x_68_17, ↓x_68_20, ↓x_68_22, ↓x_68_25, ↓x_68_26, up1_same, up1_ne, up1_up1, us_0, us_1, us_2, us_3, us_4, us_5, us_6, us_7, us_8, us_9, us_10, us_11, rw_zero, rw_succ, Option.toList_some, Option.toList_none, List.cons_append, List.nil_append, cat_int, cat_ref, cat_null, iI_add, iI_sub, iI_mul, iI_neg, List.length_cons, List.length_nil, ↓reduceIte, va_rf_some, exR, wiR, wkW, wkR, orR, rdR, hx, iI_lt, iI_le, iI_n0, c, if_true]
    exact hQ V A hx (fun _ _ => rfl) hD (fun _ _ => rfl)
  · by_cases c1 : n < k
    · have e1 : ¬ (D.length : Int) < 0 := by omega
      by_cases c2 : 40 ≤ D.length
      · have e2 : ¬ (D.length : Int) < 40 := by omega
        rw [if_pos (Or.inr (Or.inr c2))] at hQ
        simp (disch := first | assumption | omega | exact isB_z | exact isB_o | exact iI_in' (by assumption) (by omega) (by omega) | exact cat_int _ | exact cat_ref _ | exact cat_null | decide) only [c_68, ↓x_68_0, ↓x_68_1, ↓x_68_4, ↓x_68_5, ↓x_68_6, ↓x_68_9, ↓x_68_10, ↓x_68_13, ↓x_68_16, ↓x_68_17, ↓x_68_20, ↓x_68_22, ↓x_68_25, ↓x_68_26, up1_same, up1_ne, up1_up1, us_0, us_1, us_2, us_3, us_4, us_5, us_6, us_7, us_8, us_9, us_10, us_11, rw_zero, rw_succ, Option.toList_some, Option.toList_none, List.cons_append, List.nil_append, cat_int, cat_ref, cat_null, iI_add, iI_sub, iI_mul, iI_neg, List.length_cons, List.length_nil, ↓reduceIte, va_rf_some, exR, wiR, wkW, wkR, orR, rdR, hx, iI_lt, iI_le, iI_n0, c, c1, e1, e2, if_true, if_false]
        exact hQ V A hx (fun _ _ => rfl) hD (fun _ _ => rfl)
      · have e2 : (D.length : Int) < 40 := by omega
        have tn1 : ((D.length : Nat) : Int).toNat = D.length := Int.toNat_natCast _
        rw [if_neg (by omega)] at hQ
        simp (disch := first | assumption | omega | exact isB_z | exact isB_o | exact iI_in' (by assumption) (by omega) (by omega) | exact cat_int _ | exact cat_ref _ | exact cat_null | decide) only [c_68, ↓x_68_0, ↓x_68_1, ↓x_68_4, ↓x_68_5, ↓x_68_6, ↓x_68_9, ↓x_68_10, ↓x_68_13, ↓x_68_16, ↓x_68_17, ↓x_68_20, ↓x_68_22, up1_same, up1_ne, up1_up1, us_0, us_1, us_2, us_3, us_4, us_5, us_6, us_7, us_8, us_9, us_10, us_11, rw_zero, rw_succ, Option.toList_some, Option.toList_none, List.cons_append, List.nil_append, cat_int, cat_ref, cat_null, iI_add, iI_sub, iI_mul, iI_neg, List.length_cons, List.length_nil, ↓reduceIte, va_rf_some, exR, wiR, wkW, wkR, orR, rdR, hx, iI_lt, iI_le, iI_n0, c, c1, e1, e2, if_true, if_false]
        simp (disch := first | assumption | omega | exact isB_z | exact isB_o | exact iI_in' (by assumption) (by omega) (by omega) | exact cat_int _ | exact cat_ref _ | exact cat_null | decide) only [↓x_68_27, ↓x_68_28, ↓x_68_31, ↓x_68_32, ↓x_68_35, ↓x_68_36, ↓x_68_37, ↓x_68_38, ↓x_68_39, ↓x_68_40, ↓x_68_41, ↓x_68_44, ↓x_68_45, ↓x_68_46, ↓x_68_49, ↓x_68_50, up1_same, up1_ne, up1_up1, us_0, us_1, us_2, us_3, us_4, us_5, us_6, us_7, us_8, us_9, us_10, us_11, rw_zero, rw_succ, Option.toList_some, Option.toList_none, List.cons_append, List.nil_append, cat_int, cat_ref, cat_null, iI_add, iI_sub, iI_mul, iI_neg, List.length_cons, List.length_nil, ↓reduceIte, va_rf_some, exR, wiR, wkW, wkR, orR, rdR, hx, iI_cl, tn1]
        refine hQ _ _ ?_ (fun a ha => up1_ne ha) ⟨by simp; omega, fun j hj => ?_⟩ (fun a ha => up1_ne ha)
        · rw [up1_same]; simp
        · have hj' : j < D.length + 1 := by simpa using hj
          rw [up1_same]
          by_cases g : j = D.length
          · subst g; rw [upd_same, getD_app_eq]
          · rw [upd_ne g, getD_app_lt (by omega)]; exact hD.2 j (by omega)
    · rw [if_pos (Or.inr (Or.inl (by omega)))] at hQ
      simp (disch := first | assumption | omega | exact isB_z | exact isB_o | exact iI_in' (by assumption) (by omega) (by omega) | exact cat_int _ | exact cat_ref _ | exact cat_null | decide) only [c_68, ↓x_68_0, ↓x_68_1, ↓x_68_4, ↓x_68_5, ↓x_68_6, ↓x_68_9, ↓x_68_10, ↓x_68_13, ↓x_68_16, ↓x_68_17, ↓x_68_20, ↓x_68_22, ↓x_68_25, ↓x_68_26, up1_same, up1_ne, up1_up1, us_0, us_1, us_2, us_3, us_4, us_5, us_6, us_7, us_8, us_9, us_10, us_11, rw_zero, rw_succ, Option.toList_some, Option.toList_none, List.cons_append, List.nil_append, cat_int, cat_ref, cat_null, iI_add, iI_sub, iI_mul, iI_neg, List.length_cons, List.length_nil, ↓reduceIte, va_rf_some, exR, wiR, wkW, wkR, orR, rdR, hx, iI_lt, iI_le, iI_n0, c, c1, if_false]
      exact hQ V A hx (fun _ _ => rfl) hD (fun _ _ => rfl)
set_option maxHeartbeats 400000 in
theorem k_afterToken {i : Nat} {due : Int} (hK : exK t) (hx : V 3 = exR T.length D.length u) (hH : tH A T) (hD : dH A D) (hd : 0 ≤ due ∧ due ≤ 3) (hi : i < T.length) (hQ : hqD t V A P Q T.length u (afT T due i (tkE T i) D)) : Call (d + 4) 67 [.ref 3, .int (iI due), .int (iI i)] (t, V, A, P) Q := by
  have k0 := hK.1
  have hl := hH.1
  obtain ⟨h1, h2, h3⟩ := hH.2 i hi
  have hn := nuA_b (en := tkE T i) hH hi
  unfold afT at hQ
  simp (disch := first | assumption | omega | exact isB_z | exact isB_o | exact iI_in' (by assumption) (by omega) (by omega) | exact cat_int _ | exact cat_ref _ | exact cat_null | decide) only [c_67, ↓x_67_0, ↓x_67_1, ↓x_67_2, ↓x_67_5, ↓x_67_6, ↓x_67_7, up1_same, up1_ne, up1_up1, us_0, us_1, us_2, us_3, us_4, us_5, us_6, us_7, us_8, us_9, us_10, us_11, rw_zero, rw_succ, Option.toList_some, Option.toList_none, List.cons_append, List.nil_append, cat_int, cat_ref, cat_null, iI_add, iI_sub, iI_mul, iI_neg, List.length_cons, List.length_nil, ↓reduceIte, va_rf_some, exR, wiR, wkW, wkR, orR, rdR, k_letterE hK hx hH (show -1 ≤ (i : Int) ∧ (i : Int) ≤ 200 by omega), ltA_at hi, iI_eq]
  by_cases d0 : due = 0
  · simp only [if_pos d0] at hQ ⊢
    simp (disch := first | assumption | omega | exact isB_z | exact isB_o | exact iI_in' (by assumption) (by omega) (by omega) | exact cat_int _ | exact cat_ref _ | exact cat_null | decide) only [↓x_67_32, ↓x_67_33, ↓x_67_35, ↓x_67_38, ↓x_67_39, ↓x_67_40, ↓x_67_41, ↓x_67_43, ↓x_67_46, ↓x_67_47, ↓x_67_50, ↓x_67_51, up1_same, up1_ne, up1_up1, us_0, us_1, us_2, us_3, us_4, us_5, us_6, us_7, us_8, us_9, us_10, us_11, rw_zero, rw_succ, Option.toList_some, Option.toList_none, List.cons_append, List.nil_append, cat_int, cat_ref, cat_null, iI_add, iI_sub, iI_mul, iI_neg, List.length_cons, List.length_nil, ↓reduceIte, va_rf_some, exR, wiR, wkW, wkR, orR, rdR, iI_eq]
    by_cases c1 : T.getD i 0 = 100
    · simp only [if_pos c1] at hQ ⊢; exact hQ V A hx (fun _ _ => rfl) hD (fun _ _ => rfl)
    · by_cases c2 : T.getD i 0 = 107
      · simp only [if_neg c1, if_pos c2] at hQ ⊢; exact hQ V A hx (fun _ _ => rfl) hD (fun _ _ => rfl)
      · simp only [if_neg c1, if_neg c2] at hQ ⊢; exact hQ V A hx (fun _ _ => rfl) hD (fun _ _ => rfl)
  by_cases d1 : due = 1
  · simp only [if_neg d0, if_pos d1] at hQ ⊢
    simp (disch := first | assumption | omega | exact isB_z | exact isB_o | exact iI_in' (by assumption) (by omega) (by omega) | exact cat_int _ | exact cat_ref _ | exact cat_null | decide) only [↓x_67_52, ↓x_67_53, ↓x_67_54, ↓x_67_55, up1_same, up1_ne, up1_up1, us_0, us_1, us_2, us_3, us_4, us_5, us_6, us_7, us_8, us_9, us_10, us_11, rw_zero, rw_succ, Option.toList_some, Option.toList_none, List.cons_append, List.nil_append, cat_int, cat_ref, cat_null, iI_add, iI_sub, iI_mul, iI_neg, List.length_cons, List.length_nil, ↓reduceIte, va_rf_some, exR, wiR, wkW, wkR, orR, rdR]
    rw [k_numberAt hK hx hH hi]
    simp (disch := first | assumption | omega | exact isB_z | exact isB_o | exact iI_in' (by assumption) (by omega) (by omega) | exact cat_int _ | exact cat_ref _ | exact cat_null | decide) only [↓x_67_58, ↓x_67_59, ↓x_67_61, up1_same, up1_ne, up1_up1, us_0, us_1, us_2, us_3, us_4, us_5, us_6, us_7, us_8, us_9, us_10, us_11, rw_zero, rw_succ, Option.toList_some, Option.toList_none, List.cons_append, List.nil_append, cat_int, cat_ref, cat_null, iI_add, iI_sub, iI_mul, iI_neg, List.length_cons, List.length_nil, ↓reduceIte, va_rf_some, exR, wiR, wkW, wkR, orR, rdR]
    refine k_afterNumber hK hx hD hn (by omega) (by omega) (fun V' A' q1 q2 q3 q4 => ?_)
    simp (disch := first | assumption | omega | exact isB_z | exact isB_o | exact iI_in' (by assumption) (by omega) (by omega) | exact cat_int _ | exact cat_ref _ | exact cat_null | decide) only [↓x_67_64, up1_same, up1_ne, up1_up1, us_0, us_1, us_2, us_3, us_4, us_5, us_6, us_7, us_8, us_9, us_10, us_11, rw_zero, rw_succ, Option.toList_some, Option.toList_none, List.cons_append, List.nil_append, cat_int, cat_ref, cat_null, iI_add, iI_sub, iI_mul, iI_neg, List.length_cons, List.length_nil, ↓reduceIte, va_rf_some, exR, wiR, wkW, wkR, orR, rdR]
    exact hQ V' A' q1 q2 q3 q4
  by_cases d2 : due = 2
  · simp only [if_neg d0, if_neg d1, if_pos d2] at hQ ⊢
    simp (disch := first | assumption | omega | exact isB_z | exact isB_o | exact iI_in' (by assumption) (by omega) (by omega) | exact cat_int _ | exact cat_ref _ | exact cat_null | decide) only [↓x_67_65, ↓x_67_66, ↓x_67_67, ↓x_67_68, up1_same, up1_ne, up1_up1, us_0, us_1, us_2, us_3, us_4, us_5, us_6, us_7, us_8, us_9, us_10, us_11, rw_zero, rw_succ, Option.toList_some, Option.toList_none, List.cons_append, List.nil_append, cat_int, cat_ref, cat_null, iI_add, iI_sub, iI_mul, iI_neg, List.length_cons, List.length_nil, ↓reduceIte, va_rf_some, exR, wiR, wkW, wkR, orR, rdR]
    rw [k_numberAt hK hx hH hi]
    simp (disch := first | assumption | omega | exact isB_z | exact isB_o | exact iI_in' (by assumption) (by omega) (by omega) | exact cat_int _ | exact cat_ref _ | exact cat_null | decide) only [↓x_67_71, ↓x_67_73, ↓x_67_74, up1_same, up1_ne, up1_up1, us_0, us_1, us_2, us_3, us_4, us_5, us_6, us_7, us_8, us_9, us_10, us_11, rw_zero, rw_succ, Option.toList_some, Option.toList_none, List.cons_append, List.nil_append, cat_int, cat_ref, cat_null, iI_add, iI_sub, iI_mul, iI_neg, List.length_cons, List.length_nil, ↓reduceIte, va_rf_some, exR, wiR, wkW, wkR, orR, rdR]
    refine k_afterNumber hK hx hD hn (by omega) (by omega) (fun V' A' q1 q2 q3 q4 => ?_)
    simp (disch := first | assumption | omega | exact isB_z | exact isB_o | exact iI_in' (by assumption) (by omega) (by omega) | exact cat_int _ | exact cat_ref _ | exact cat_null | decide) only [↓x_67_77, up1_same, up1_ne, up1_up1, us_0, us_1, us_2, us_3, us_4, us_5, us_6, us_7, us_8, us_9, us_10, us_11, rw_zero, rw_succ, Option.toList_some, Option.toList_none, List.cons_append, List.nil_append, cat_int, cat_ref, cat_null, iI_add, iI_sub, iI_mul, iI_neg, List.length_cons, List.length_nil, ↓reduceIte, va_rf_some, exR, wiR, wkW, wkR, orR, rdR]
    exact hQ V' A' q1 q2 q3 q4
  simp only [if_neg d0, if_neg d1, if_neg d2] at hQ ⊢
  simp (disch := first | assumption | omega | exact isB_z | exact isB_o | exact iI_in' (by assumption) (by omega) (by omega) | exact cat_int _ | exact cat_ref _ | exact cat_null | decide) only [↓x_67_78, ↓x_67_79, ↓x_67_81, ↓x_67_84, ↓x_67_85, ↓x_67_88, ↓x_67_89, up1_same, up1_ne, up1_up1, us_0, us_1, us_2, us_3, us_4, us_5, us_6, us_7, us_8, us_9, us_10, us_11, rw_zero, rw_succ, Option.toList_some, Option.toList_none, List.cons_append, List.nil_append, cat_int, cat_ref, cat_null, iI_add, iI_sub, iI_mul, iI_neg, List.length_cons, List.length_nil, ↓reduceIte, va_rf_some, exR, wiR, wkW, wkR, orR, rdR, iI_eq]
  by_cases c1 : T.getD i 0 = 59
  · simp only [if_pos c1] at hQ ⊢; exact hQ V A hx (fun _ _ => rfl) hD (fun _ _ => rfl)
  · simp only [if_neg c1] at hQ ⊢; exact hQ V A hx (fun _ _ => rfl) hD (fun _ _ => rfl)
theorem afT_b (T : List Int) (due : Int) (i en : Nat) {D : List Int} (hD : D.length ≤ 40) : (-1 ≤ (afT T due i en D).1 ∧ (afT T due i en D).1 ≤ 3) ∧ (afT T due i en D).2.length ≤ 40 := by
  have hh : ∀ n b k : Int, (-1 ≤ (afN D n b k).1 ∧ (afN D n b k).1 ≤ 3) ∧ (afN D n b k).2.length ≤ 40 := by
    intro n b k
    unfold afN
    split
    · simp only; omega
    · simp; omega
  unfold afT
  split
  · split
    · simp only; omega
    · split <;> simp only <;> omega
  · split
    · exact hh _ _ _
    · split
      · exact hh _ _ _
      · split <;> simp only <;> omega
end
/-! the fault, without fuel -/
def fpG (T : List Int) (due : Int) (i : Nat) (D : List Int) : Int × List Int := fpF T (T.length - i) due i D
theorem fpF_s (T : List Int) (n : Nat) (due : Int) (i : Nat) (D : List Int) : fpF T (n + 1) due i D = if i < T.length then (if T.getD i 0 = 32 then fpF T n due (i + 1) D else if (afT T due i (tkE T i) D).1 = -1 then (i, (afT T due i (tkE T i) D).2) else fpF T n (afT T due i (tkE T i) D).1 (tkE T i) (afT T due i (tkE T i) D).2) else (if due = 0 ∧ 0 < D.length then -1 else T.length, D) := rfl
theorem fpF_f (T : List Int) : ∀ (n m : Nat) (due : Int) (i : Nat) (D : List Int), T.length ≤ i + n → T.length ≤ i + m → fpF T n due i D = fpF T m due i D := by
  intro n
  induction n with
  | zero =>
    intro m due i D h1 h2
    cases m with
    | zero => rfl
    | succ m => rw [fpF_s, if_neg (by omega)]; rfl
  | succ n ih =>
    intro m due i D h1 h2
    cases m with
    | zero => rw [fpF_s, if_neg (by omega)]; rfl
    | succ m =>
      rw [fpF_s, fpF_s]
      by_cases c : i < T.length
      · rw [if_pos c, if_pos c]
        by_cases b : T.getD i 0 = 32
        · rw [if_pos b, if_pos b]; exact ih m _ _ _ (by omega) (by omega)
        · have := tkE_b c
          rw [if_neg b, if_neg b, ih m _ _ _ (by omega) (by omega)]
      · rw [if_neg c, if_neg c]
theorem fpG_end {T : List Int} {due : Int} {i : Nat} {D : List Int} (h : T.length ≤ i) : fpG T due i D = (if due = 0 ∧ 0 < D.length then (-1 : Int) else (T.length : Int), D) := by
  unfold fpG
  rw [show T.length - i = 0 by omega]
  rfl
theorem fpG_blank {T : List Int} {due : Int} {i : Nat} {D : List Int} (h : i < T.length) (hb : T.getD i 0 = 32) : fpG T due i D = fpG T due (i + 1) D := by
  unfold fpG
  rw [show T.length - i = (T.length - (i + 1)) + 1 by omega, fpF_s, if_pos h, if_pos hb]
theorem fpG_tok {T : List Int} {due : Int} {i : Nat} {D : List Int} (h : i < T.length) (hb : ¬ T.getD i 0 = 32) : fpG T due i D = if (afT T due i (tkE T i) D).1 = -1 then ((i : Int), (afT T due i (tkE T i) D).2) else fpG T (afT T due i (tkE T i) D).1 (tkE T i) (afT T due i (tkE T i) D).2 := by
  have := tkE_b h
  unfold fpG
  rw [show T.length - i = (T.length - (i + 1)) + 1 by omega, fpF_s, if_pos h, if_neg hb, fpF_f T (T.length - (i + 1)) (T.length - tkE T i) _ _ _ (by omega) (by omega)]
