/-! THE TEXT, as the class reads it -/
abbrev fg (T : List Int) (i : Nat) : Prop := i < T.length ∧ 48 ≤ T.getD i 0 ∧ T.getD i 0 ≤ 57
def fgE (T : List Int) : Nat → Nat → Nat
  | 0, i => i
  | n + 1, i => if fg T i then fgE T n (i + 1) else i
/-- where the token ends that begins there -/
def tkE (T : List Int) (i : Nat) : Nat := if fgE T (T.length - i) i = i then i + 1 else fgE T (T.length - i) i
def nuA (T : List Int) (i en : Nat) : Int := if ¬ fg T i ∨ i + 2 < en then -1 else if en = i + 1 then T.getD i 0 - 48 else if T.getD i 0 = 48 ∨ ¬ fg T (i + 1) then -1 else 10 * (T.getD i 0 - 48) + T.getD (i + 1) 0 - 48
def afN (D : List Int) (n b k : Int) : Int × List Int := if n < 0 ∨ k ≤ n ∨ 40 ≤ D.length then (-1, D) else (3, D ++ [b + n])
def afT (T : List Int) (due : Int) (i en : Nat) (D : List Int) : Int × List Int :=
  if due = 0 then (if T.getD i 0 = 100 then (1, D) else if T.getD i 0 = 107 then (2, D) else (-1, D))
  else if due = 1 then afN D (nuA T i en) 0 31 else if due = 2 then afN D (nuA T i en) 31 3 else if T.getD i 0 = 59 then (0, D) else (-1, D)
/-- fault's place or -1, and what was told -/
def fpF (T : List Int) : Nat → Int → Nat → List Int → Int × List Int
  | 0, due, _, D => (if due = 0 ∧ 0 < D.length then -1 else T.length, D)
  | n + 1, due, i, D => if i < T.length then (if T.getD i 0 = 32 then fpF T n due (i + 1) D else if (afT T due i (tkE T i) D).1 = -1 then (i, (afT T due i (tkE T i) D).2) else fpF T n (afT T due i (tkE T i) D).1 (tkE T i) (afT T due i (tkE T i) D).2) else (if due = 0 ∧ 0 < D.length then -1 else T.length, D)
def tH (A : Nat → Nat → Int32) (T : List Int) : Prop := T.length ≤ 120 ∧ ∀ i : Nat, i < T.length → A 11 i = iI (T.getD i 0) ∧ 0 ≤ T.getD i 0 ∧ T.getD i 0 ≤ 255
theorem fgE_b (T : List Int) : ∀ (n i : Nat), i + n = T.length → i ≤ fgE T n i ∧ fgE T n i ≤ T.length := by
  intro n
  induction n with
  | zero => intro i h; simp only [fgE]; omega
  | succ n ih =>
    intro i h
    simp only [fgE]
    split
    · have := ih (i + 1) (by omega); omega
    · omega
theorem tkE_b {T : List Int} {i : Nat} (h : i < T.length) : i < tkE T i ∧ tkE T i ≤ T.length := by
  have := fgE_b T (T.length - i) i (by omega)
  unfold tkE
  split <;> omega
section
variable {d : Nat} {t : mL} {V : Nat → Nat → Value} {A : Nat → Nat → Int32} {P : Nat → Nat → Option Nat} {μ : mM} {Q : Option Value → mM → Prop} {T : List Int} {it u : Int}
theorem k_isFigure {i : Nat} (hK : exK t) (hx : V 3 = exR T.length it u) (hH : tH A T) (hi : i ≤ 200) : Call (d + 1) 71 [.ref 3, .int (iI i)] (t, V, A, P) Q = Q (some (.int (iI (if fg T i then 1 else 0)))) (t, V, A, P) := by
  have k0 := hK.1
  obtain ⟨k11, k11l⟩ := hK.2.2.2.2.2.1
  have hl := hH.1
  have e1 : ¬ (i : Int) < 0 := by omega
  have tn1 : ((i : Nat) : Int).toNat = i := Int.toNat_natCast _
  by_cases c : i < T.length
  · obtain ⟨h1, h2, h3⟩ := hH.2 i c
    have e2 : (i : Int) < T.length := by omega
    have e3 : (i : Int) < 120 := by omega
    by_cases c1 : 48 ≤ T.getD i 0
    · have c1' : ¬ T.getD i 0 < 48 := by omega
      by_cases c2 : T.getD i 0 ≤ 57
      · have c2' : ¬ 57 < T.getD i 0 := by omega
        rw [if_pos (show fg T i from ⟨c, c1, c2⟩)]
        simp (disch := first | assumption | omega | exact isB_z | exact isB_o | exact iI_in' (by assumption) (by omega) (by omega) | exact cat_int _ | exact cat_ref _ | exact cat_null | decide) only [c_71, ↓x_71_0, ↓x_71_1, ↓x_71_4, ↓x_71_5, ↓x_71_6, ↓x_71_9, ↓x_71_12, ↓x_71_13, ↓x_71_15, ↓x_71_18, ↓x_71_19, ↓x_71_20, ↓x_71_21, ↓x_71_24, ↓x_71_25, ↓x_71_26, ↓x_71_28, ↓x_71_31, ↓x_71_32, ↓x_71_35, ↓x_71_36, ↓x_71_37, ↓x_71_39, ↓x_71_42, ↓x_71_43, ↓x_71_46, ↓x_71_47, up1_same, up1_ne, up1_up1, us_0, us_1, us_2, us_3, us_4, us_5, us_6, us_7, us_8, us_9, us_10, us_11, rw_zero, rw_succ, Option.toList_some, Option.toList_none, List.cons_append, List.nil_append, cat_int, cat_ref, cat_null, iI_add, iI_sub, iI_mul, iI_neg, List.length_cons, List.length_nil, ↓reduceIte, va_rf_some, exR, wiR, wkW, wkR, orR, rdR, hx, iI_lt, iI_le, iI_n0, e1, e2, e3, if_true, if_false, iI_cl, tn1, h1, c1, c2, c1', c2']
      · have c2' : 57 < T.getD i 0 := by omega
        rw [if_neg (show ¬ fg T i from fun q => c2 q.2.2)]
        simp (disch := first | assumption | omega | exact isB_z | exact isB_o | exact iI_in' (by assumption) (by omega) (by omega) | exact cat_int _ | exact cat_ref _ | exact cat_null | decide) only [c_71, ↓x_71_0, ↓x_71_1, ↓x_71_4, ↓x_71_5, ↓x_71_6, ↓x_71_9, ↓x_71_12, ↓x_71_13, ↓x_71_15, ↓x_71_18, ↓x_71_19, ↓x_71_20, ↓x_71_21, ↓x_71_24, ↓x_71_25, ↓x_71_26, ↓x_71_28, ↓x_71_31, ↓x_71_32, ↓x_71_35, ↓x_71_36, ↓x_71_37, ↓x_71_39, ↓x_71_42, ↓x_71_43, ↓x_71_46, ↓x_71_47, up1_same, up1_ne, up1_up1, us_0, us_1, us_2, us_3, us_4, us_5, us_6, us_7, us_8, us_9, us_10, us_11, rw_zero, rw_succ, Option.toList_some, Option.toList_none, List.cons_append, List.nil_append, cat_int, cat_ref, cat_null, iI_add, iI_sub, iI_mul, iI_neg, List.length_cons, List.length_nil, ↓reduceIte, va_rf_some, exR, wiR, wkW, wkR, orR, rdR, hx, iI_lt, iI_le, iI_n0, e1, e2, e3, if_true, if_false, iI_cl, tn1, h1, c1, c2, c1', c2']
    · have c1' : T.getD i 0 < 48 := by omega
      rw [if_neg (show ¬ fg T i from fun q => c1 q.2.1)]
      simp (disch := first | assumption | omega | exact isB_z | exact isB_o | exact iI_in' (by assumption) (by omega) (by omega) | exact cat_int _ | exact cat_ref _ | exact cat_null | decide) only [c_71, ↓x_71_0, ↓x_71_1, ↓x_71_4, ↓x_71_5, ↓x_71_6, ↓x_71_9, ↓x_71_12, ↓x_71_13, ↓x_71_15, ↓x_71_18, ↓x_71_19, ↓x_71_20, ↓x_71_21, ↓x_71_24, ↓x_71_25, ↓x_71_26, ↓x_71_28, ↓x_71_31, ↓x_71_32, ↓x_71_35, ↓x_71_36, ↓x_71_37, ↓x_71_39, ↓x_71_42, ↓x_71_43, ↓x_71_46, ↓x_71_47, up1_same, up1_ne, up1_up1, us_0, us_1, us_2, us_3, us_4, us_5, us_6, us_7, us_8, us_9, us_10, us_11, rw_zero, rw_succ, Option.toList_some, Option.toList_none, List.cons_append, List.nil_append, cat_int, cat_ref, cat_null, iI_add, iI_sub, iI_mul, iI_neg, List.length_cons, List.length_nil, ↓reduceIte, va_rf_some, exR, wiR, wkW, wkR, orR, rdR, hx, iI_lt, iI_le, iI_n0, e1, e2, e3, if_true, if_false, iI_cl, tn1, h1, c1, c1']
  · have e2 : ¬ (i : Int) < T.length := by omega
    rw [if_neg (show ¬ fg T i from fun q => c q.1)]
    simp (disch := first | assumption | omega | exact isB_z | exact isB_o | exact iI_in' (by assumption) (by omega) (by omega) | exact cat_int _ | exact cat_ref _ | exact cat_null | decide) only [c_71, ↓x_71_0, ↓x_71_1, ↓x_71_4, ↓x_71_5, ↓x_71_6, ↓x_71_9, ↓x_71_12, ↓x_71_13, ↓x_71_15, ↓x_71_18, ↓x_71_19, ↓x_71_20, ↓x_71_21, ↓x_71_24, ↓x_71_25, ↓x_71_26, ↓x_71_28, ↓x_71_31, ↓x_71_32, ↓x_71_35, ↓x_71_36, ↓x_71_37, ↓x_71_39, ↓x_71_42, ↓x_71_43, ↓x_71_46, ↓x_71_47, up1_same, up1_ne, up1_up1, us_0, us_1, us_2, us_3, us_4, us_5, us_6, us_7, us_8, us_9, us_10, us_11, rw_zero, rw_succ, Option.toList_some, Option.toList_none, List.cons_append, List.nil_append, cat_int, cat_ref, cat_null, iI_add, iI_sub, iI_mul, iI_neg, List.length_cons, List.length_nil, ↓reduceIte, va_rf_some, exR, wiR, wkW, wkR, orR, rdR, hx, iI_lt, iI_n0, e1, e2, if_true, if_false]
theorem tokE_loop {i : Nat} (hK : exK t) (hx : V 3 = exR T.length it u) (hH : tH A T) (hi : i < T.length) : ∀ (n j : Nat), j + n = T.length → i ≤ j → fgE T n j = fgE T (T.length - i) i → Ev (d + 1) 70 2 [.ref 3, .int (iI i), .int (iI j)] [] (t, V, A, P) Q = Q (some (.int (iI (tkE T i)))) (t, V, A, P) := by
  have k0 := hK.1
  have hl := hH.1
  intro n
  induction n with
  | zero =>
    intro j hj hij hf
    simp only [fgE] at hf
    rw [x_70_2]
    have hn : ¬ fg T j := fun q => by have := q.1; omega
    simp (disch := first | assumption | omega | exact isB_z | exact isB_o | exact iI_in' (by assumption) (by omega) (by omega) | exact cat_int _ | exact cat_ref _ | exact cat_null | decide) only [↓x_70_3, ↓x_70_4, up1_same, up1_ne, up1_up1, us_0, us_1, us_2, us_3, us_4, us_5, us_6, us_7, us_8, us_9, us_10, us_11, rw_zero, rw_succ, Option.toList_some, Option.toList_none, List.cons_append, List.nil_append, cat_int, cat_ref, cat_null, iI_add, iI_sub, iI_mul, iI_neg, List.length_cons, List.length_nil, ↓reduceIte, va_rf_some, exR, wiR, wkW, wkR, orR, rdR, k_isFigure hK hx hH]
    rw [if_neg hn]
    have e1 : ¬ (j : Int) = i := by omega
    have hk : tkE T i = j := by unfold tkE; rw [← hf, if_neg (by omega)]
    simp (disch := first | assumption | omega | exact isB_z | exact isB_o | exact iI_in' (by assumption) (by omega) (by omega) | exact cat_int _ | exact cat_ref _ | exact cat_null | decide) only [↓x_70_7, ↓x_70_16, ↓x_70_17, ↓x_70_18, ↓x_70_21, ↓x_70_22, ↓x_70_23, ↓x_70_24, ↓x_70_27, ↓x_70_28, up1_same, up1_ne, up1_up1, us_0, us_1, us_2, us_3, us_4, us_5, us_6, us_7, us_8, us_9, us_10, us_11, rw_zero, rw_succ, Option.toList_some, Option.toList_none, List.cons_append, List.nil_append, cat_int, cat_ref, cat_null, iI_add, iI_sub, iI_mul, iI_neg, List.length_cons, List.length_nil, ↓reduceIte, va_rf_some, exR, wiR, wkW, wkR, orR, rdR, iI_eq, iI_n0, e1, if_true, if_false, hk]
  | succ n ih =>
    intro j hj hij hf
    simp only [fgE] at hf
    rw [x_70_2]
    have ci : ((j : Nat) : Int) + 1 = ((j + 1 : Nat) : Int) := by omega
    simp (disch := first | assumption | omega | exact isB_z | exact isB_o | exact iI_in' (by assumption) (by omega) (by omega) | exact cat_int _ | exact cat_ref _ | exact cat_null | decide) only [↓x_70_3, ↓x_70_4, up1_same, up1_ne, up1_up1, us_0, us_1, us_2, us_3, us_4, us_5, us_6, us_7, us_8, us_9, us_10, us_11, rw_zero, rw_succ, Option.toList_some, Option.toList_none, List.cons_append, List.nil_append, cat_int, cat_ref, cat_null, iI_add, iI_sub, iI_mul, iI_neg, List.length_cons, List.length_nil, ↓reduceIte, va_rf_some, exR, wiR, wkW, wkR, orR, rdR, k_isFigure hK hx hH]
    by_cases c : fg T j
    · rw [if_pos c]
      rw [if_pos c] at hf
      simp (disch := first | assumption | omega | exact isB_z | exact isB_o | exact iI_in' (by assumption) (by omega) (by omega) | exact cat_int _ | exact cat_ref _ | exact cat_null | decide) only [↓x_70_7, ↓x_70_10, ↓x_70_13, up1_same, up1_ne, up1_up1, us_0, us_1, us_2, us_3, us_4, us_5, us_6, us_7, us_8, us_9, us_10, us_11, rw_zero, rw_succ, Option.toList_some, Option.toList_none, List.cons_append, List.nil_append, cat_int, cat_ref, cat_null, iI_add, iI_sub, iI_mul, iI_neg, List.length_cons, List.length_nil, ↓reduceIte, va_rf_some, exR, wiR, wkW, wkR, orR, rdR, iI_eq, iI_n0, ci]
      rw [if_neg (show ¬ (1 : Int) = 0 by omega)]
      exact ih (j + 1) (by omega) (by omega) hf
    · rw [if_neg c]
      rw [if_neg c] at hf
      by_cases g : j = i
      · subst g
        have hk : tkE T j = j + 1 := by unfold tkE; rw [← hf, if_pos rfl]
        simp (disch := first | assumption | omega | exact isB_z | exact isB_o | exact iI_in' (by assumption) (by omega) (by omega) | exact cat_int _ | exact cat_ref _ | exact cat_null | decide) only [↓x_70_7, ↓x_70_16, ↓x_70_17, ↓x_70_18, ↓x_70_21, ↓x_70_22, ↓x_70_23, ↓x_70_24, ↓x_70_27, ↓x_70_28, up1_same, up1_ne, up1_up1, us_0, us_1, us_2, us_3, us_4, us_5, us_6, us_7, us_8, us_9, us_10, us_11, rw_zero, rw_succ, Option.toList_some, Option.toList_none, List.cons_append, List.nil_append, cat_int, cat_ref, cat_null, iI_add, iI_sub, iI_mul, iI_neg, List.length_cons, List.length_nil, ↓reduceIte, va_rf_some, exR, wiR, wkW, wkR, orR, rdR, iI_eq, iI_n0, if_true, if_false, hk, ci]
      · have e1 : ¬ (j : Int) = i := by omega
        have hk : tkE T i = j := by unfold tkE; rw [← hf, if_neg g]
        simp (disch := first | assumption | omega | exact isB_z | exact isB_o | exact iI_in' (by assumption) (by omega) (by omega) | exact cat_int _ | exact cat_ref _ | exact cat_null | decide) only [↓x_70_7, ↓x_70_16, ↓x_70_17, ↓x_70_18, ↓x_70_21, ↓x_70_22, ↓x_70_23, ↓x_70_24, ↓x_70_27, ↓x_70_28, up1_same, up1_ne, up1_up1, us_0, us_1, us_2, us_3, us_4, us_5, us_6, us_7, us_8, us_9, us_10, us_11, rw_zero, rw_succ, Option.toList_some, Option.toList_none, List.cons_append, List.nil_append, cat_int, cat_ref, cat_null, iI_add, iI_sub, iI_mul, iI_neg, List.length_cons, List.length_nil, ↓reduceIte, va_rf_some, exR, wiR, wkW, wkR, orR, rdR, iI_eq, iI_n0, e1, if_true, if_false, hk]
theorem k_tokenEnd {i : Nat} (hK : exK t) (hx : V 3 = exR T.length it u) (hH : tH A T) (hi : i < T.length) : Call (d + 2) 70 [.ref 3, .int (iI i)] (t, V, A, P) Q = Q (some (.int (iI (tkE T i)))) (t, V, A, P) := by
  simp (disch := first | assumption | omega | exact isB_z | exact isB_o | exact iI_in' (by assumption) (by omega) (by omega) | exact cat_int _ | exact cat_ref _ | exact cat_null | decide) only [c_70, ↓x_70_0, ↓x_70_1, up1_same, up1_ne, up1_up1, us_0, us_1, us_2, us_3, us_4, us_5, us_6, us_7, us_8, us_9, us_10, us_11, rw_zero, rw_succ, Option.toList_some, Option.toList_none, List.cons_append, List.nil_append, cat_int, cat_ref, cat_null, iI_add, iI_sub, iI_mul, iI_neg, List.length_cons, List.length_nil, ↓reduceIte, va_rf_some, exR, wiR, wkW, wkR, orR, rdR]
  exact tokE_loop hK hx hH hi (T.length - i) i (by omega) (Nat.le_refl _) rfl
end
