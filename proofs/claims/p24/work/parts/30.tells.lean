/-! TELLS -/
section
variable {d : Nat} {t : mL} {V : Nat → Nat → Value} {A : Nat → Nat → Int32} {P : Nat → Nat → Option Nat} {μ : mM} {Q : Option Value → mM → Prop} {T D : List Int} {it u l : Int} {S : aS} {e : Nat → Nat}
set_option maxHeartbeats 400000 in
theorem fp_loop {V0 : Nat → Nat → Value} {A0 : Nat → Nat → Int32} {E : Int × List Int} (hK : exK t) (hH0 : tH A0 T) (hQ : hqD t V0 A0 P Q T.length u E) : ∀ (n : Nat) (due : Int) (i j : Nat) (D : List Int) (V : Nat → Nat → Value) (A : Nat → Nat → Int32), T.length ≤ i + n → i ≤ j → j ≤ T.length → (∀ q, i ≤ q → q < j → fg T q ∧ 1 ≤ q ∧ fg T (q - 1)) → ¬ (fg T j ∧ 1 ≤ j ∧ fg T (j - 1)) → 0 ≤ due ∧ due ≤ 3 → V 3 = exR T.length D.length u → dH A D → (∀ a, a ≠ 3 → V a = V0 a) → (∀ a, a ≠ 12 → A a = A0 a) → fpG T due j D = E → Ev (d + 4) 65 9 [.ref 3, .int (iI due), .int (iI i)] [] (t, V, A, P) Q := by
  have k0 := hK.1
  have hl := hH0.1
  have fin : ∀ (due : Int) (i : Nat) (D : List Int) (V : Nat → Nat → Value) (A : Nat → Nat → Int32), i = T.length → 0 ≤ due ∧ due ≤ 3 → V 3 = exR T.length D.length u → dH A D → (∀ a, a ≠ 3 → V a = V0 a) → (∀ a, a ≠ 12 → A a = A0 a) → fpG T due i D = E → Ev (d + 4) 65 9 [.ref 3, .int (iI due), .int (iI i)] [] (t, V, A, P) Q := by
    intro due i D V A hi hd hx hD hV hA hE
    have hDl := hD.1
    have e1 : ¬ (i : Int) < T.length := by omega
    rw [fpG_end (by omega)] at hE
    rw [x_65_9]
    subst hE
    simp (disch := first | assumption | omega | exact isB_z | exact isB_o | exact iI_in' (by assumption) (by omega) (by omega) | exact cat_int _ | exact cat_ref _ | exact cat_null | decide) only [↓x_65_10, ↓x_65_11, ↓x_65_14, ↓x_65_45, ↓x_65_46, up1_same, up1_ne, up1_up1, us_0, us_1, us_2, us_3, us_4, us_5, us_6, us_7, us_8, us_9, us_10, us_11, rw_zero, rw_succ, Option.toList_some, Option.toList_none, List.cons_append, List.nil_append, cat_int, cat_ref, cat_null, iI_add, iI_sub, iI_mul, iI_neg, List.length_cons, List.length_nil, ↓reduceIte, va_rf_some, exR, wiR, wkW, wkR, orR, rdR, hx, iI_lt, iI_eq, iI_n0, e1, if_false]
    by_cases c : due = 0
    · by_cases g : 0 < D.length
      · have g1 : (0 : Int) < D.length := by omega
        have hQ' := hQ V A hx hV hD hA
        simp only [c, g, and_self, if_true] at hQ'
        simp (disch := first | assumption | omega | exact isB_z | exact isB_o | exact iI_in' (by assumption) (by omega) (by omega) | exact cat_int _ | exact cat_ref _ | exact cat_null | decide) only [c, if_true, ↓x_65_49, ↓x_65_50, ↓x_65_53, ↓x_65_56, ↓x_65_57, ↓x_65_60, ↓x_65_61, ↓x_65_64, up1_same, up1_ne, up1_up1, us_0, us_1, us_2, us_3, us_4, us_5, us_6, us_7, us_8, us_9, us_10, us_11, rw_zero, rw_succ, Option.toList_some, Option.toList_none, List.cons_append, List.nil_append, cat_int, cat_ref, cat_null, iI_add, iI_sub, iI_mul, iI_neg, List.length_cons, List.length_nil, ↓reduceIte, va_rf_some, exR, wiR, wkW, wkR, orR, rdR, hx, iI_lt, iI_le, iI_n0, g1]
        exact hQ'
      · have g1 : ¬ (0 : Int) < D.length := by omega
        have hQ' := hQ V A hx hV hD hA
        simp only [c, g, and_false, if_false] at hQ'
        simp (disch := first | assumption | omega | exact isB_z | exact isB_o | exact iI_in' (by assumption) (by omega) (by omega) | exact cat_int _ | exact cat_ref _ | exact cat_null | decide) only [c, if_true, ↓x_65_49, ↓x_65_50, ↓x_65_53, ↓x_65_56, ↓x_65_57, ↓x_65_60, ↓x_65_61, ↓x_65_64, up1_same, up1_ne, up1_up1, us_0, us_1, us_2, us_3, us_4, us_5, us_6, us_7, us_8, us_9, us_10, us_11, rw_zero, rw_succ, Option.toList_some, Option.toList_none, List.cons_append, List.nil_append, cat_int, cat_ref, cat_null, iI_add, iI_sub, iI_mul, iI_neg, List.length_cons, List.length_nil, ↓reduceIte, va_rf_some, exR, wiR, wkW, wkR, orR, rdR, hx, iI_lt, iI_le, iI_n0, g1, if_false]
        exact hQ'
    · have hQ' := hQ V A hx hV hD hA
      simp only [c, false_and, if_false] at hQ'
      simp (disch := first | assumption | omega | exact isB_z | exact isB_o | exact iI_in' (by assumption) (by omega) (by omega) | exact cat_int _ | exact cat_ref _ | exact cat_null | decide) only [c, if_false, ↓x_65_60, ↓x_65_61, ↓x_65_64, up1_same, up1_ne, up1_up1, us_0, us_1, us_2, us_3, us_4, us_5, us_6, us_7, us_8, us_9, us_10, us_11, rw_zero, rw_succ, Option.toList_some, Option.toList_none, List.cons_append, List.nil_append, cat_int, cat_ref, cat_null, iI_add, iI_sub, iI_mul, iI_neg, List.length_cons, List.length_nil, ↓reduceIte, va_rf_some, exR, wiR, wkW, wkR, orR, rdR, hx]
      exact hQ'
  intro n
  induction n with
  | zero =>
    intro due i j D V A hn hij hj hin hbd hd hx hD hV hA hE
    have hji : j = i := by omega
    subst hji
    exact fin due j D V A (by omega) hd hx hD hV hA hE
  | succ n ih =>
    intro due i j D V A hn hij hj hin hbd hd hx hD hV hA hE
    by_cases c : i < T.length
    · have e1 : (i : Int) < T.length := by omega
      have ci : (i : Int) + 1 = ((i + 1 : Nat) : Int) := by omega
      have hH : tH A T := ⟨hl, fun j hj => by rw [hA 11 (by omega)]; exact hH0.2 j hj⟩
      have hHi := hH.2 i c
      rw [x_65_9]
      simp (disch := first | assumption | omega | exact isB_z | exact isB_o | exact iI_in' (by assumption) (by omega) (by omega) | exact cat_int _ | exact cat_ref _ | exact cat_null | decide) only [↓x_65_10, ↓x_65_11, ↓x_65_14, ↓x_65_17, ↓x_65_18, up1_same, up1_ne, up1_up1, us_0, us_1, us_2, us_3, us_4, us_5, us_6, us_7, us_8, us_9, us_10, us_11, rw_zero, rw_succ, Option.toList_some, Option.toList_none, List.cons_append, List.nil_append, cat_int, cat_ref, cat_null, iI_add, iI_sub, iI_mul, iI_neg, List.length_cons, List.length_nil, ↓reduceIte, va_rf_some, exR, wiR, wkW, wkR, orR, rdR, hx, iI_lt, e1, if_true]
      simp (disch := first | assumption | omega | exact isB_z | exact isB_o | exact iI_in' (by assumption) (by omega) (by omega) | exact cat_int _ | exact cat_ref _ | exact cat_null | decide) only [↓x_65_19, up1_same, up1_ne, up1_up1, us_0, us_1, us_2, us_3, us_4, us_5, us_6, us_7, us_8, us_9, us_10, us_11, rw_zero, rw_succ, Option.toList_some, Option.toList_none, List.cons_append, List.nil_append, cat_int, cat_ref, cat_null, iI_add, iI_sub, iI_mul, iI_neg, List.length_cons, List.length_nil, ↓reduceIte, va_rf_some, exR, wiR, wkW, wkR, orR, rdR]
      by_cases g0 : i < j
      · rw [k_startN hK hx hH c (Or.inr (hin i (Nat.le_refl _) g0))]
        simp (disch := first | assumption | omega | exact isB_z | exact isB_o | exact iI_in' (by assumption) (by omega) (by omega) | exact cat_int _ | exact cat_ref _ | exact cat_null | decide) only [↓x_65_22, ↓x_65_39, ↓x_65_42, up1_same, up1_ne, up1_up1, us_0, us_1, us_2, us_3, us_4, us_5, us_6, us_7, us_8, us_9, us_10, us_11, rw_zero, rw_succ, Option.toList_some, Option.toList_none, List.cons_append, List.nil_append, cat_int, cat_ref, cat_null, iI_add, iI_sub, iI_mul, iI_neg, List.length_cons, List.length_nil, ↓reduceIte, va_rf_some, exR, wiR, wkW, wkR, orR, rdR, iI_eq, if_true, ci]
        exact ih due (i + 1) j D V A (by omega) (by omega) hj (fun q h1 h2 => hin q (by omega) h2) hbd hd hx hD hV hA hE
      · have hji : j = i := by omega
        subst hji
        by_cases g : T.getD j 0 = 32
        · rw [fpG_blank c g] at hE
          rw [k_startN hK hx hH c (Or.inl g)]
          simp (disch := first | assumption | omega | exact isB_z | exact isB_o | exact iI_in' (by assumption) (by omega) (by omega) | exact cat_int _ | exact cat_ref _ | exact cat_null | decide) only [↓x_65_22, ↓x_65_39, ↓x_65_42, up1_same, up1_ne, up1_up1, us_0, us_1, us_2, us_3, us_4, us_5, us_6, us_7, us_8, us_9, us_10, us_11, rw_zero, rw_succ, Option.toList_some, Option.toList_none, List.cons_append, List.nil_append, cat_int, cat_ref, cat_null, iI_add, iI_sub, iI_mul, iI_neg, List.length_cons, List.length_nil, ↓reduceIte, va_rf_some, exR, wiR, wkW, wkR, orR, rdR, iI_eq, if_true, ci]
          refine ih due (j + 1) (j + 1) D V A (by omega) (by omega) (by omega) (fun q h1 h2 => by omega) (fun q => ?_) hd hx hD hV hA hE
          have q3 := q.2.2
          rw [Nat.add_sub_cancel] at q3
          have := q3.2
          omega
        · rw [fpG_tok c g] at hE
          rw [k_startY hK hx hH c g hbd]
          have hb := tkE_b c
          have ht := tkE_in c
          have ha := afT_b T due j (tkE T j) hD.1
          simp (disch := first | assumption | omega | exact isB_z | exact isB_o | exact iI_in' (by assumption) (by omega) (by omega) | exact cat_int _ | exact cat_ref _ | exact cat_null | decide) only [↓x_65_22, ↓x_65_25, ↓x_65_26, ↓x_65_27, up1_same, up1_ne, up1_up1, us_0, us_1, us_2, us_3, us_4, us_5, us_6, us_7, us_8, us_9, us_10, us_11, rw_zero, rw_succ, Option.toList_some, Option.toList_none, List.cons_append, List.nil_append, cat_int, cat_ref, cat_null, iI_add, iI_sub, iI_mul, iI_neg, List.length_cons, List.length_nil, ↓reduceIte, va_rf_some, exR, wiR, wkW, wkR, orR, rdR, iI_eq]
          rw [if_neg (show ¬ (1 : Int) = 0 by omega)]
          simp (disch := first | assumption | omega | exact isB_z | exact isB_o | exact iI_in' (by assumption) (by omega) (by omega) | exact cat_int _ | exact cat_ref _ | exact cat_null | decide) only [↓x_65_28, up1_same, up1_ne, up1_up1, us_0, us_1, us_2, us_3, us_4, us_5, us_6, us_7, us_8, us_9, us_10, us_11, rw_zero, rw_succ, Option.toList_some, Option.toList_none, List.cons_append, List.nil_append, cat_int, cat_ref, cat_null, iI_add, iI_sub, iI_mul, iI_neg, List.length_cons, List.length_nil, ↓reduceIte, va_rf_some, exR, wiR, wkW, wkR, orR, rdR]
          refine k_afterToken hK hx hH hD hd c (fun V' A' q1 q2 q3 q4 => ?_)
          have hV' : ∀ a, a ≠ 3 → V' a = V0 a := fun a ha => (q2 a ha).trans (hV a ha)
          have hA' : ∀ a, a ≠ 12 → A' a = A0 a := fun a ha => (q4 a ha).trans (hA a ha)
          generalize hr : afT T due j (tkE T j) D = r at *
          simp (disch := first | assumption | omega | exact isB_z | exact isB_o | exact iI_in' (by assumption) (by omega) (by omega) | exact cat_int _ | exact cat_ref _ | exact cat_null | decide) only [↓x_65_31, ↓x_65_32, ↓x_65_33, ↓x_65_34, up1_same, up1_ne, up1_up1, us_0, us_1, us_2, us_3, us_4, us_5, us_6, us_7, us_8, us_9, us_10, us_11, rw_zero, rw_succ, Option.toList_some, Option.toList_none, List.cons_append, List.nil_append, cat_int, cat_ref, cat_null, iI_add, iI_sub, iI_mul, iI_neg, List.length_cons, List.length_nil, ↓reduceIte, va_rf_some, exR, wiR, wkW, wkR, orR, rdR, iI_eq]
          by_cases g2 : r.1 = -1
          · rw [if_pos g2] at hE ⊢
            simp (disch := first | assumption | omega | exact isB_z | exact isB_o | exact iI_in' (by assumption) (by omega) (by omega) | exact cat_int _ | exact cat_ref _ | exact cat_null | decide) only [↓x_65_37, ↓x_65_38, up1_same, up1_ne, up1_up1, us_0, us_1, us_2, us_3, us_4, us_5, us_6, us_7, us_8, us_9, us_10, us_11, rw_zero, rw_succ, Option.toList_some, Option.toList_none, List.cons_append, List.nil_append, cat_int, cat_ref, cat_null, iI_add, iI_sub, iI_mul, iI_neg, List.length_cons, List.length_nil, ↓reduceIte, va_rf_some, exR, wiR, wkW, wkR, orR, rdR]
            subst hE
            exact hQ V' A' q1 hV' q3 hA'
          · rw [if_neg g2] at hE ⊢
            simp (disch := first | assumption | omega | exact isB_z | exact isB_o | exact iI_in' (by assumption) (by omega) (by omega) | exact cat_int _ | exact cat_ref _ | exact cat_null | decide) only [↓x_65_39, ↓x_65_42, up1_same, up1_ne, up1_up1, us_0, us_1, us_2, us_3, us_4, us_5, us_6, us_7, us_8, us_9, us_10, us_11, rw_zero, rw_succ, Option.toList_some, Option.toList_none, List.cons_append, List.nil_append, cat_int, cat_ref, cat_null, iI_add, iI_sub, iI_mul, iI_neg, List.length_cons, List.length_nil, ↓reduceIte, va_rf_some, exR, wiR, wkW, wkR, orR, rdR, ci]
            exact ih r.1 (j + 1) (tkE T j) r.2 V' A' (by omega) (by omega) hb.2 (fun q h1 h2 => ⟨(ht.1 q h1 h2).1, by omega, (ht.1 q h1 h2).2⟩) (fun q => ht.2 ⟨q.1, q.2.2⟩) (by omega) q1 q3 hV' hA' hE
    · have hji : j = i := by omega
      subst hji
      exact fin due j D V A (by omega) hd hx hD hV hA hE
/-- what the text tells -/
def fpT (T : List Int) : Int × List Int := fpF T T.length 0 0 []
theorem k_faultPlace (hK : exK t) (hx : V 3 = exR T.length it u) (hH : tH A T) (hQ : hqD t V A P Q T.length u (fpT T)) : Call (d + 5) 65 [.ref 3] (t, V, A, P) Q := by
  have k0 := hK.1
  simp (disch := first | assumption | omega | exact isB_z | exact isB_o | exact iI_in' (by assumption) (by omega) (by omega) | exact cat_int _ | exact cat_ref _ | exact cat_null | decide) only [c_65, ↓x_65_0, ↓x_65_1, ↓x_65_2, ↓x_65_3, ↓x_65_4, ↓x_65_7, ↓x_65_8, up1_same, up1_ne, up1_up1, us_0, us_1, us_2, us_3, us_4, us_5, us_6, us_7, us_8, us_9, us_10, us_11, rw_zero, rw_succ, Option.toList_some, Option.toList_none, List.cons_append, List.nil_append, cat_int, cat_ref, cat_null, iI_add, iI_sub, iI_mul, iI_neg, List.length_cons, List.length_nil, ↓reduceIte, va_rf_some, exR, wiR, wkW, wkR, orR, rdR, hx]
  exact fp_loop hK hH hQ T.length 0 0 0 [] _ A (by omega) (by omega) (by omega) (fun q h1 h2 => by omega) (fun q => by omega) (by omega) (up1_same _ _ _) ⟨by simp, fun j hj => absurd hj (by simp)⟩ (fun a ha => up1_ne ha) (fun _ _ => rfl) rfl
def snA : aW → List Int → aW
  | X, [] => X
  | X, k :: l => snA (sX X k) l
def aTells (S : aS) : Int × aS := if 0 ≤ (fpT S.T).1 then (-10 - (fpT S.T).1, S) else if 32 < S.X.1.length + (fpT S.T).2.length then (-3, S) else ((fpT S.T).2.length, aS.mk (snA S.X (fpT S.T).2) (pu S.U S.X) S.I [])
theorem RX.noText {V' : Nat → Nat → Value} {i : Int} (h : RX V A P S e) (h3 : V' 3 = exR 0 i S.U.length) (hV : ∀ a, a ≠ 3 → V' a = V a) : RX V' A P (aS.mk S.X S.U S.I []) e := by
  refine ⟨⟨i, h3⟩, wiH_eq h.wi (hV _ (by omega)) rfl rfl rfl, h.wo, h.ul, h.ep, h.ei, fun j hj => ?_, fun i hi => ?_, h.ip, fun j hj => ?_, fun i hi => imH_eq (h.im i hi) (hV _ (by omega)) rfl rfl rfl rfl, Nat.zero_le _, fun i hi => absurd hi (Nat.not_lt_zero _), scr_eq h.sc (fun a ha => hV _ (by omega)), h.op⟩
  · rw [hV _ (by omega)]; exact h.er j hj
  · exact ⟨wiH_eq (h.ew i hi).1 (hV _ (by omega)) rfl rfl rfl, (h.ew i hi).2⟩
  · rw [hV _ (by omega)]; exact h.ir j hj
theorem snA_app : ∀ (l : List Int) (X : aW) (k : Int), snA X (l ++ [k]) = sX (snA X l) k := by
  intro l
  induction l with
  | nil => intro X k; rfl
  | cons a l ih => intro X k; exact ih _ k
theorem afN_k {D : List Int} {n b k : Int} (hD : ∀ j : Nat, j < D.length → 0 ≤ D.getD j 0 ∧ D.getD j 0 < 34) (hb : 0 ≤ b) (hk : b + k ≤ 34) : ∀ j : Nat, j < (afN D n b k).2.length → 0 ≤ (afN D n b k).2.getD j 0 ∧ (afN D n b k).2.getD j 0 < 34 := by
  unfold afN
  split
  · exact hD
  · intro j hj
    have hj0 : j < (D ++ [b + n]).length := hj
    have hj' : j < D.length + 1 := by simpa using hj0
    show 0 ≤ (D ++ [b + n]).getD j 0 ∧ (D ++ [b + n]).getD j 0 < 34
    by_cases g : j = D.length
    · subst g; rw [getD_app_eq]; omega
    · rw [getD_app_lt (by omega)]; exact hD j (by omega)
theorem afT_k {D : List Int} (T : List Int) (due : Int) (i en : Nat) (hD : ∀ j : Nat, j < D.length → 0 ≤ D.getD j 0 ∧ D.getD j 0 < 34) : ∀ j : Nat, j < (afT T due i en D).2.length → 0 ≤ (afT T due i en D).2.getD j 0 ∧ (afT T due i en D).2.getD j 0 < 34 := by
  unfold afT
  split
  · split
    · exact hD
    · split <;> exact hD
  · split
    · exact afN_k hD (by omega) (by omega)
    · split
      · exact afN_k hD (by omega) (by omega)
      · split <;> exact hD
theorem fpF_k (T : List Int) : ∀ (n : Nat) (due : Int) (i : Nat) (D : List Int), (∀ j : Nat, j < D.length → 0 ≤ D.getD j 0 ∧ D.getD j 0 < 34) → ∀ j : Nat, j < (fpF T n due i D).2.length → 0 ≤ (fpF T n due i D).2.getD j 0 ∧ (fpF T n due i D).2.getD j 0 < 34 := by
  intro n
  induction n with
  | zero => intro due i D hD; exact hD
  | succ n ih =>
    intro due i D hD
    simp only [fpF]
    split
    · split
      · exact ih _ _ _ hD
      · split
        · exact afT_k T due i _ hD
        · exact ih _ _ _ (afT_k T due i _ hD)
    · exact hD
theorem fpT_k (T : List Int) : ∀ j : Nat, j < (fpT T).2.length → 0 ≤ (fpT T).2.getD j 0 ∧ (fpT T).2.getD j 0 < 34 := fpF_k T _ _ _ _ (fun j hj => absurd hj (by simp))
theorem fpF_b (T : List Int) : ∀ (n : Nat) (due : Int) (i : Nat) (D : List Int), -1 ≤ (fpF T n due i D).1 ∧ (fpF T n due i D).1 ≤ T.length := by
  intro n
  induction n with
  | zero =>
    intro due i D
    simp only [fpF]
    split <;> omega
  | succ n ih =>
    intro due i D
    simp only [fpF]
    split
    · split
      · exact ih _ _ _
      · split
        · simp only; omega
        · exact ih _ _ _
    · simp only
      split <;> omega
set_option maxHeartbeats 400000 in
theorem tells_loop {V0 : Nat → Nat → Value} {A0 : Nat → Nat → Int32} {XE : aW} {f1 : Int} {U : List aW} {I : Nat → Option aW} (hK : exK t) (hk : ∀ j : Nat, j < D.length → 0 ≤ D.getD j 0 ∧ D.getD j 0 < 34) (hQ : hqT t V0 A0 Q (D.length, aS.mk XE U I [])) : ∀ (r : List Int) (j : Nat) (X : aW) (V : Nat → Nat → Value) (A : Nat → Nat → Int32), j + r.length = D.length → (∀ q : Nat, q < r.length → D.getD (j + q) 0 = r.getD q 0) → RX V A P (aS.mk X U I T) e → V 3 = exR T.length D.length U.length → dH A D → tabs t A → X.1.length + r.length ≤ 32 → snA X r = XE → fr V0 V A0 A → Ev (d + 5) 43 40 [.ref 3, .int (iI f1), .int (iI j)] [] (t, V, A, P) Q := by
  have k0 := hK.1
  have k4 := hK.2.1.1
  obtain ⟨k12, k12l⟩ := hK.2.2.2.2.2.2.1
  intro r
  induction r with
  | nil =>
    intro j X V A hj hr h hx hD hT hl hE hf
    have hj' : j = D.length := by simpa using hj
    have e1 : ¬ (j : Int) < D.length := by omega
    have hDl := hD.1
    rw [x_43_40]
    simp (disch := first | assumption | omega | exact isB_z | exact isB_o | exact iI_in' (by assumption) (by omega) (by omega) | exact cat_int _ | exact cat_ref _ | exact cat_null | decide) only [↓x_43_41, ↓x_43_42, ↓x_43_45, ↓x_43_74, ↓x_43_75, ↓x_43_76, ↓x_43_79, ↓x_43_80, ↓x_43_83, up1_same, up1_ne, up1_up1, us_0, us_1, us_2, us_3, us_4, us_5, us_6, us_7, us_8, us_9, us_10, us_11, rw_zero, rw_succ, Option.toList_some, Option.toList_none, List.cons_append, List.nil_append, cat_int, cat_ref, cat_null, iI_add, iI_sub, iI_mul, iI_neg, List.length_cons, List.length_nil, ↓reduceIte, va_rf_some, exR, wiR, wkW, wkR, orR, rdR, hx, iI_lt, e1, if_false]
    have hX : X = XE := hE
    subst hX
    exact hQ _ A P e (h.noText (i := D.length) (up1_same _ _ _) (fun a ha => up1_ne ha)) (hf.tr ⟨fun a ha => up1_ne (by omega), fun _ _ => rfl⟩)
  | cons k r ih =>
    intro j X V A hj hr h hx hD hT hl hE hf
    have hDl := hD.1
    simp only [List.length_cons] at hj hl
    have e1 : (j : Int) < D.length := by omega
    have e2 : (j : Int) < 40 := by omega
    have tn1 : ((j : Nat) : Int).toNat = j := Int.toNat_natCast _
    have ci : (j : Int) + 1 = ((j + 1 : Nat) : Int) := by omega
    have hkj : D.getD j 0 = k := hr 0 (by simp)
    have hb := hk j (by omega)
    have hAj := hD.2 j (by omega)
    rw [hkj] at hb hAj
    rw [x_43_40]
    simp (disch := first | assumption | omega | exact isB_z | exact isB_o | exact iI_in' (by assumption) (by omega) (by omega) | exact cat_int _ | exact cat_ref _ | exact cat_null | decide) only [↓x_43_41, ↓x_43_42, ↓x_43_45, ↓x_43_48, ↓x_43_49, ↓x_43_51, ↓x_43_54, ↓x_43_55, ↓x_43_58, ↓x_43_59, ↓x_43_62, ↓x_43_63, up1_same, up1_ne, up1_up1, us_0, us_1, us_2, us_3, us_4, us_5, us_6, us_7, us_8, us_9, us_10, us_11, rw_zero, rw_succ, Option.toList_some, Option.toList_none, List.cons_append, List.nil_append, cat_int, cat_ref, cat_null, iI_add, iI_sub, iI_mul, iI_neg, List.length_cons, List.length_nil, ↓reduceIte, va_rf_some, exR, wiR, wkW, wkR, orR, rdR, hx, iI_lt, e1, e2, if_true, iI_cl, tn1, hAj]
    simp (disch := first | assumption | omega | exact isB_z | exact isB_o | exact iI_in' (by assumption) (by omega) (by omega) | exact cat_int _ | exact cat_ref _ | exact cat_null | decide) only [↓x_43_64, up1_same, up1_ne, up1_up1, us_0, us_1, us_2, us_3, us_4, us_5, us_6, us_7, us_8, us_9, us_10, us_11, rw_zero, rw_succ, Option.toList_some, Option.toList_none, List.cons_append, List.nil_append, cat_int, cat_ref, cat_null, iI_add, iI_sub, iI_mul, iI_neg, List.length_cons, List.length_nil, ↓reduceIte, va_rf_some, exR, wiR, wkW, wkR, orR, rdR]
    rw [k_send hT hK.2.1 h.wi h.wo (by show X.1.length < 32; omega) hb.1 hb.2]
    simp (disch := first | assumption | omega | exact isB_z | exact isB_o | exact iI_in' (by assumption) (by omega) (by omega) | exact cat_int _ | exact cat_ref _ | exact cat_null | decide) only [↓x_43_67, ↓x_43_68, ↓x_43_71, up1_same, up1_ne, up1_up1, us_0, us_1, us_2, us_3, us_4, us_5, us_6, us_7, us_8, us_9, us_10, us_11, rw_zero, rw_succ, Option.toList_some, Option.toList_none, List.cons_append, List.nil_append, cat_int, cat_ref, cat_null, iI_add, iI_sub, iI_mul, iI_neg, List.length_cons, List.length_nil, ↓reduceIte, va_rf_some, exR, wiR, wkW, wkR, orR, rdR, ci]
    have hAne : ∀ a, ¬ (5 ≤ a ∧ a ≤ 7) → sndA A 4 X.1.length k (fD k (sm X.1)) a = A a := fun a ha => by
      unfold sndA; rw [up1_ne (by omega), up1_ne (by omega), up1_ne (by omega)]
    refine ih (j + 1) (sX X k) _ _ (by omega) (fun q hq => ?_) (h.wire (wiH_send h.wi h.wo) (wf_send h.wo (by show X.1.length < 32; omega) hb.1 hb.2) (fun a ha => up1_ne ha) hAne) (by rw [up1_ne (by omega)]; exact hx) ⟨hDl, fun q hq => by rw [hAne 12 (by omega)]; exact hD.2 q hq⟩ ?_ ?_ hE (hf.tr ⟨fun a ha => up1_ne (by omega), fun a ha => hAne a (by omega)⟩)
    · have := hr (q + 1) (by simp; omega)
      rw [show j + 1 + q = j + (q + 1) by omega, this]
      rfl
    · obtain ⟨q1, q2, q3, q4, q5, q6⟩ := hT
      exact ⟨q1, q2, q3, q4, fun j => by rw [hAne 0 (by omega)]; exact q5 j, fun j => by rw [hAne 1 (by omega)]; exact q6 j⟩
    · show (X.1 ++ [k]).length + r.length ≤ 32
      simp; omega
set_option maxHeartbeats 400000 in
theorem k_tells (hK : exK t) (hT : tabs t A) (h : RX V A P S e) (hQ : hqT t V A Q (aTells S)) : Call (d + 6) 43 [.ref 3] (t, V, A, P) Q := by
  obtain ⟨it, hx⟩ := h.ob
  have k0 := hK.1
  have k4 := hK.2.1.1
  have hX := h.wo.1
  have hlT := h.tl
  have hfb := fpF_b S.T S.T.length 0 0 []
  have hkb := fpT_k S.T
  simp (disch := first | assumption | omega | exact isB_z | exact isB_o | exact iI_in' (by assumption) (by omega) (by omega) | exact cat_int _ | exact cat_ref _ | exact cat_null | decide) only [c_43, ↓x_43_0, ↓x_43_1, up1_same, up1_ne, up1_up1, us_0, us_1, us_2, us_3, us_4, us_5, us_6, us_7, us_8, us_9, us_10, us_11, rw_zero, rw_succ, Option.toList_some, Option.toList_none, List.cons_append, List.nil_append, cat_int, cat_ref, cat_null, iI_add, iI_sub, iI_mul, iI_neg, List.length_cons, List.length_nil, ↓reduceIte, va_rf_some, exR, wiR, wkW, wkR, orR, rdR]
  refine k_faultPlace hK hx ⟨h.tl, h.tx⟩ (fun V1 A1 q1 q2 q3 q4 => ?_)
  rw [show fpF S.T S.T.length 0 0 [] = fpT S.T from rfl] at hfb
  unfold aTells at hQ
  generalize hr : fpT S.T = r at *
  have hDl := q3.1
  have h1 : RX V1 A1 P S e := h.keep (fun a ha _ => q2 a ha) ⟨_, q1⟩ (fun a ha => q4 a (by omega)) (scr_eq h.sc (fun a ha => q2 a (by omega)))
  have f1 : fr V V1 A A1 := ⟨fun a ha => q2 a (by omega), fun a ha => q4 a (by omega)⟩
  have hw1 := h1.wi.1
  simp (disch := first | assumption | omega | exact isB_z | exact isB_o | exact iI_in' (by assumption) (by omega) (by omega) | exact cat_int _ | exact cat_ref _ | exact cat_null | decide) only [↓x_43_4, ↓x_43_5, ↓x_43_6, up1_same, up1_ne, up1_up1, us_0, us_1, us_2, us_3, us_4, us_5, us_6, us_7, us_8, us_9, us_10, us_11, rw_zero, rw_succ, Option.toList_some, Option.toList_none, List.cons_append, List.nil_append, cat_int, cat_ref, cat_null, iI_add, iI_sub, iI_mul, iI_neg, List.length_cons, List.length_nil, ↓reduceIte, va_rf_some, exR, wiR, wkW, wkR, orR, rdR, iI_lt, iI_le, iI_n0]
  by_cases c : 0 ≤ r.1
  · rw [if_pos c] at hQ
    rw [if_neg (show ¬ r.1 < 0 by omega)]
    simp (disch := first | assumption | omega | exact isB_z | exact isB_o | exact iI_in' (by assumption) (by omega) (by omega) | exact cat_int _ | exact cat_ref _ | exact cat_null | decide) only [↓x_43_9, ↓x_43_11, ↓x_43_12, ↓x_43_13, up1_same, up1_ne, up1_up1, us_0, us_1, us_2, us_3, us_4, us_5, us_6, us_7, us_8, us_9, us_10, us_11, rw_zero, rw_succ, Option.toList_some, Option.toList_none, List.cons_append, List.nil_append, cat_int, cat_ref, cat_null, iI_add, iI_sub, iI_mul, iI_neg, List.length_cons, List.length_nil, ↓reduceIte, va_rf_some, exR, wiR, wkW, wkR, orR, rdR]
    exact hQ V1 A1 P e h1 f1
  · rw [if_neg c] at hQ
    rw [if_pos (show r.1 < 0 by omega)]
    by_cases c2 : 32 < S.X.1.length + r.2.length
    · have e1 : (32 : Int) < (S.X.1.length : Int) + r.2.length := by omega
      rw [if_pos c2] at hQ
      simp (disch := first | assumption | omega | exact isB_z | exact isB_o | exact iI_in' (by assumption) (by omega) (by omega) | exact cat_int _ | exact cat_ref _ | exact cat_null | decide) only [↓x_43_14, ↓x_43_15, ↓x_43_18, ↓x_43_21, ↓x_43_22, ↓x_43_25, ↓x_43_26, ↓x_43_28, ↓x_43_31, ↓x_43_33, up1_same, up1_ne, up1_up1, us_0, us_1, us_2, us_3, us_4, us_5, us_6, us_7, us_8, us_9, us_10, us_11, rw_zero, rw_succ, Option.toList_some, Option.toList_none, List.cons_append, List.nil_append, cat_int, cat_ref, cat_null, iI_add, iI_sub, iI_mul, iI_neg, List.length_cons, List.length_nil, ↓reduceIte, va_rf_some, exR, wiR, wkW, wkR, orR, rdR, q1, hw1, iI_lt, e1, if_true]
      exact hQ V1 A1 P e h1 f1
    · have e1 : ¬ (32 : Int) < (S.X.1.length : Int) + r.2.length := by omega
      rw [if_neg c2] at hQ
      simp (disch := first | assumption | omega | exact isB_z | exact isB_o | exact iI_in' (by assumption) (by omega) (by omega) | exact cat_int _ | exact cat_ref _ | exact cat_null | decide) only [↓x_43_14, ↓x_43_15, ↓x_43_18, ↓x_43_21, ↓x_43_22, ↓x_43_25, ↓x_43_26, ↓x_43_28, up1_same, up1_ne, up1_up1, us_0, us_1, us_2, us_3, us_4, us_5, us_6, us_7, us_8, us_9, us_10, us_11, rw_zero, rw_succ, Option.toList_some, Option.toList_none, List.cons_append, List.nil_append, cat_int, cat_ref, cat_null, iI_add, iI_sub, iI_mul, iI_neg, List.length_cons, List.length_nil, ↓reduceIte, va_rf_some, exR, wiR, wkW, wkR, orR, rdR, q1, hw1, iI_lt, e1, if_false]
      simp (disch := first | assumption | omega | exact isB_z | exact isB_o | exact iI_in' (by assumption) (by omega) (by omega) | exact cat_int _ | exact cat_ref _ | exact cat_null | decide) only [↓x_43_34, ↓x_43_35, up1_same, up1_ne, up1_up1, us_0, us_1, us_2, us_3, us_4, us_5, us_6, us_7, us_8, us_9, us_10, us_11, rw_zero, rw_succ, Option.toList_some, Option.toList_none, List.cons_append, List.nil_append, cat_int, cat_ref, cat_null, iI_add, iI_sub, iI_mul, iI_neg, List.length_cons, List.length_nil, ↓reduceIte, va_rf_some, exR, wiR, wkW, wkR, orR, rdR]
      refine k_remember2 (it := r.2.length) hK h1 q1 (fun V2 A2 P2 e2 r1 r2 r3 r4 => ?_)
      simp (disch := first | assumption | omega | exact isB_z | exact isB_o | exact iI_in' (by assumption) (by omega) (by omega) | exact cat_int _ | exact cat_ref _ | exact cat_null | decide) only [↓x_43_38, ↓x_43_39, up1_same, up1_ne, up1_up1, us_0, us_1, us_2, us_3, us_4, us_5, us_6, us_7, us_8, us_9, us_10, us_11, rw_zero, rw_succ, Option.toList_some, Option.toList_none, List.cons_append, List.nil_append, cat_int, cat_ref, cat_null, iI_add, iI_sub, iI_mul, iI_neg, List.length_cons, List.length_nil, ↓reduceIte, va_rf_some, exR, wiR, wkW, wkR, orR, rdR]
      have f2 := f1.tr r2
      exact tells_loop (T := S.T) (U := pu S.U S.X) (I := S.I) (XE := snA S.X r.2) hK hkb hQ r.2 0 S.X V2 A2 (by omega) (fun q hq => by rw [Nat.zero_add]) r1 r3 ⟨hDl, fun q hq => by rw [r4]; exact q3.2 q hq⟩ (f2.tabs hT) (by omega) rfl f2
end
