/-! TELLS -/
section
variable {d : Nat} {t : mL} {V : Nat → Nat → Value} {A : Nat → Nat → Int32} {P : Nat → Nat → Option Nat} {μ : mM} {Q : Option Value → mM → Prop} {T D : List Int} {it u l : Int} {S : aS} {e : Nat → Nat}
set_option maxHeartbeats 400000 in
theorem fp_loop {V0 : Nat → Nat → Value} {A0 : Nat → Nat → Int32} {E : Int × List Int} (hK : exK t) (hH0 : tH A0 T) (hQ : hqD t V0 A0 P Q T.length u E) : ∀ (n : Nat) (due : Int) (i : Nat) (D : List Int) (V : Nat → Nat → Value) (A : Nat → Nat → Int32) (a3 : Value), T.length ≤ i + n → i ≤ T.length → 0 ≤ due ∧ due ≤ 3 → V 3 = exR T.length D.length u → dH A D → (∀ a, a ≠ 3 → V a = V0 a) → (∀ a, a ≠ 12 → A a = A0 a) → fpF T n due i D = E → Ev (d + 3) 69 9 [.ref 3, .int (iI due), .int (iI i), a3] [] (t, V, A, P) Q := by
  have k0 := hK.1
  obtain ⟨k11, k11l⟩ := hK.2.2.2.2.2.1
  have hl := hH0.1
  have fin : ∀ (due : Int) (i : Nat) (D : List Int) (V : Nat → Nat → Value) (A : Nat → Nat → Int32) (a3 : Value), ¬ i < T.length → i ≤ T.length → 0 ≤ due ∧ due ≤ 3 → V 3 = exR T.length D.length u → dH A D → (∀ a, a ≠ 3 → V a = V0 a) → (∀ a, a ≠ 12 → A a = A0 a) → (if due = 0 ∧ 0 < D.length then -1 else (T.length : Int), D) = E → Ev (d + 3) 69 9 [.ref 3, .int (iI due), .int (iI i), a3] [] (t, V, A, P) Q := by
    intro due i D V A a3 hi hi2 hd hx hD hV hA hE
    have hDl := hD.1
    have e1 : ¬ (i : Int) < T.length := by omega
    rw [x_69_9]
    subst hE
    simp (disch := first | assumption | omega | exact isB_z | exact isB_o | exact iI_in' (by assumption) (by omega) (by omega) | exact cat_int _ | exact cat_ref _ | exact cat_null | decide) only [↓x_69_10, ↓x_69_11, ↓x_69_14, ↓x_69_64, ↓x_69_65, up1_same, up1_ne, up1_up1, us_0, us_1, us_2, us_3, us_4, us_5, us_6, us_7, us_8, us_9, us_10, us_11, rw_zero, rw_succ, Option.toList_some, Option.toList_none, List.cons_append, List.nil_append, cat_int, cat_ref, cat_null, iI_add, iI_sub, iI_mul, iI_neg, List.length_cons, List.length_nil, ↓reduceIte, va_rf_some, exR, wiR, wkW, wkR, orR, rdR, hx, iI_lt, iI_eq, iI_n0, e1, if_false]
    by_cases c : due = 0
    · by_cases g : 0 < D.length
      · have g1 : (0 : Int) < D.length := by omega
        have hQ' := hQ V A hx hV hD hA
        simp only [c, g, and_self, if_true] at hQ'
        simp (disch := first | assumption | omega | exact isB_z | exact isB_o | exact iI_in' (by assumption) (by omega) (by omega) | exact cat_int _ | exact cat_ref _ | exact cat_null | decide) only [c, if_true, ↓x_69_68, ↓x_69_69, ↓x_69_72, ↓x_69_75, ↓x_69_76, ↓x_69_79, ↓x_69_80, ↓x_69_83, up1_same, up1_ne, up1_up1, us_0, us_1, us_2, us_3, us_4, us_5, us_6, us_7, us_8, us_9, us_10, us_11, rw_zero, rw_succ, Option.toList_some, Option.toList_none, List.cons_append, List.nil_append, cat_int, cat_ref, cat_null, iI_add, iI_sub, iI_mul, iI_neg, List.length_cons, List.length_nil, ↓reduceIte, va_rf_some, exR, wiR, wkW, wkR, orR, rdR, hx, iI_lt, iI_le, iI_n0, g1]
        exact hQ'
      · have g1 : ¬ (0 : Int) < D.length := by omega
        have hQ' := hQ V A hx hV hD hA
        simp only [c, g, and_false, if_false] at hQ'
        simp (disch := first | assumption | omega | exact isB_z | exact isB_o | exact iI_in' (by assumption) (by omega) (by omega) | exact cat_int _ | exact cat_ref _ | exact cat_null | decide) only [c, if_true, ↓x_69_68, ↓x_69_69, ↓x_69_72, ↓x_69_75, ↓x_69_76, ↓x_69_79, ↓x_69_80, ↓x_69_83, up1_same, up1_ne, up1_up1, us_0, us_1, us_2, us_3, us_4, us_5, us_6, us_7, us_8, us_9, us_10, us_11, rw_zero, rw_succ, Option.toList_some, Option.toList_none, List.cons_append, List.nil_append, cat_int, cat_ref, cat_null, iI_add, iI_sub, iI_mul, iI_neg, List.length_cons, List.length_nil, ↓reduceIte, va_rf_some, exR, wiR, wkW, wkR, orR, rdR, hx, iI_lt, iI_le, iI_n0, g1, if_false]
        exact hQ'
    · have hQ' := hQ V A hx hV hD hA
      simp only [c, false_and, if_false] at hQ'
      simp (disch := first | assumption | omega | exact isB_z | exact isB_o | exact iI_in' (by assumption) (by omega) (by omega) | exact cat_int _ | exact cat_ref _ | exact cat_null | decide) only [c, if_false, ↓x_69_79, ↓x_69_80, ↓x_69_83, up1_same, up1_ne, up1_up1, us_0, us_1, us_2, us_3, us_4, us_5, us_6, us_7, us_8, us_9, us_10, us_11, rw_zero, rw_succ, Option.toList_some, Option.toList_none, List.cons_append, List.nil_append, cat_int, cat_ref, cat_null, iI_add, iI_sub, iI_mul, iI_neg, List.length_cons, List.length_nil, ↓reduceIte, va_rf_some, exR, wiR, wkW, wkR, orR, rdR, hx]
      exact hQ'
  intro n
  induction n with
  | zero =>
    intro due i D V A a3 hn hi hd hx hD hV hA hE
    exact fin due i D V A a3 (by omega) hi hd hx hD hV hA hE
  | succ n ih =>
    intro due i D V A a3 hn hi hd hx hD hV hA hE
    simp only [fpF] at hE
    by_cases c : i < T.length
    · rw [if_pos c] at hE
      have e1 : (i : Int) < T.length := by omega
      have e2 : (i : Int) < 120 := by omega
      have tn1 : ((i : Nat) : Int).toNat = i := Int.toNat_natCast _
      have ci : (i : Int) + 1 = ((i + 1 : Nat) : Int) := by omega
      have hH : tH A T := ⟨hl, fun j hj => by rw [hA 11 (by omega)]; exact hH0.2 j hj⟩
      obtain ⟨h1, h2, h3⟩ := hH.2 i c
      rw [x_69_9]
      simp (disch := first | assumption | omega | exact isB_z | exact isB_o | exact iI_in' (by assumption) (by omega) (by omega) | exact cat_int _ | exact cat_ref _ | exact cat_null | decide) only [↓x_69_10, ↓x_69_11, ↓x_69_14, ↓x_69_17, ↓x_69_18, ↓x_69_20, ↓x_69_23, ↓x_69_24, ↓x_69_25, ↓x_69_26, ↓x_69_27, ↓x_69_28, ↓x_69_31, ↓x_69_32, ↓x_69_33, ↓x_69_35, up1_same, up1_ne, up1_up1, us_0, us_1, us_2, us_3, us_4, us_5, us_6, us_7, us_8, us_9, us_10, us_11, rw_zero, rw_succ, Option.toList_some, Option.toList_none, List.cons_append, List.nil_append, cat_int, cat_ref, cat_null, iI_add, iI_sub, iI_mul, iI_neg, List.length_cons, List.length_nil, ↓reduceIte, va_rf_some, exR, wiR, wkW, wkR, orR, rdR, hx, iI_lt, iI_eq, e1, e2, if_true, iI_cl, tn1, h1, ci]
      by_cases g : T.getD i 0 = 32
      · rw [if_pos g] at hE ⊢
        simp (disch := first | assumption | omega | exact isB_z | exact isB_o | exact iI_in' (by assumption) (by omega) (by omega) | exact cat_int _ | exact cat_ref _ | exact cat_null | decide) only [↓x_69_59, ↓x_69_60, ↓x_69_61, up1_same, up1_ne, up1_up1, us_0, us_1, us_2, us_3, us_4, us_5, us_6, us_7, us_8, us_9, us_10, us_11, rw_zero, rw_succ, Option.toList_some, Option.toList_none, List.cons_append, List.nil_append, cat_int, cat_ref, cat_null, iI_add, iI_sub, iI_mul, iI_neg, List.length_cons, List.length_nil, ↓reduceIte, va_rf_some, exR, wiR, wkW, wkR, orR, rdR]
        exact ih due (i + 1) D V A _ (by omega) (by omega) hd hx hD hV hA hE
      · rw [if_neg g] at hE ⊢
        have hb := tkE_b c
        have ha := afT_b T due i (tkE T i) hD.1
        simp (disch := first | assumption | omega | exact isB_z | exact isB_o | exact iI_in' (by assumption) (by omega) (by omega) | exact cat_int _ | exact cat_ref _ | exact cat_null | decide) only [↓x_69_38, ↓x_69_39, ↓x_69_40, up1_same, up1_ne, up1_up1, us_0, us_1, us_2, us_3, us_4, us_5, us_6, us_7, us_8, us_9, us_10, us_11, rw_zero, rw_succ, Option.toList_some, Option.toList_none, List.cons_append, List.nil_append, cat_int, cat_ref, cat_null, iI_add, iI_sub, iI_mul, iI_neg, List.length_cons, List.length_nil, ↓reduceIte, va_rf_some, exR, wiR, wkW, wkR, orR, rdR]
        rw [k_tokenEnd hK hx hH c]
        simp (disch := first | assumption | omega | exact isB_z | exact isB_o | exact iI_in' (by assumption) (by omega) (by omega) | exact cat_int _ | exact cat_ref _ | exact cat_null | decide) only [↓x_69_43, ↓x_69_44, ↓x_69_45, ↓x_69_46, ↓x_69_47, ↓x_69_48, up1_same, up1_ne, up1_up1, us_0, us_1, us_2, us_3, us_4, us_5, us_6, us_7, us_8, us_9, us_10, us_11, rw_zero, rw_succ, Option.toList_some, Option.toList_none, List.cons_append, List.nil_append, cat_int, cat_ref, cat_null, iI_add, iI_sub, iI_mul, iI_neg, List.length_cons, List.length_nil, ↓reduceIte, va_rf_some, exR, wiR, wkW, wkR, orR, rdR]
        refine k_afterToken hK hx hH hD hd hb.1 hb.2 (fun V' A' q1 q2 q3 q4 => ?_)
        have hV' : ∀ a, a ≠ 3 → V' a = V0 a := fun a ha => (q2 a ha).trans (hV a ha)
        have hA' : ∀ a, a ≠ 12 → A' a = A0 a := fun a ha => (q4 a ha).trans (hA a ha)
        generalize hr : afT T due i (tkE T i) D = r at *
        simp (disch := first | assumption | omega | exact isB_z | exact isB_o | exact iI_in' (by assumption) (by omega) (by omega) | exact cat_int _ | exact cat_ref _ | exact cat_null | decide) only [↓x_69_51, ↓x_69_52, ↓x_69_53, ↓x_69_54, up1_same, up1_ne, up1_up1, us_0, us_1, us_2, us_3, us_4, us_5, us_6, us_7, us_8, us_9, us_10, us_11, rw_zero, rw_succ, Option.toList_some, Option.toList_none, List.cons_append, List.nil_append, cat_int, cat_ref, cat_null, iI_add, iI_sub, iI_mul, iI_neg, List.length_cons, List.length_nil, ↓reduceIte, va_rf_some, exR, wiR, wkW, wkR, orR, rdR, iI_eq]
        by_cases g2 : r.1 = -1
        · rw [if_pos g2] at hE ⊢
          simp (disch := first | assumption | omega | exact isB_z | exact isB_o | exact iI_in' (by assumption) (by omega) (by omega) | exact cat_int _ | exact cat_ref _ | exact cat_null | decide) only [↓x_69_57, ↓x_69_58, up1_same, up1_ne, up1_up1, us_0, us_1, us_2, us_3, us_4, us_5, us_6, us_7, us_8, us_9, us_10, us_11, rw_zero, rw_succ, Option.toList_some, Option.toList_none, List.cons_append, List.nil_append, cat_int, cat_ref, cat_null, iI_add, iI_sub, iI_mul, iI_neg, List.length_cons, List.length_nil, ↓reduceIte, va_rf_some, exR, wiR, wkW, wkR, orR, rdR]
          subst hE
          exact hQ V' A' q1 hV' q3 hA'
        · rw [if_neg g2] at hE ⊢
          simp (disch := first | assumption | omega | exact isB_z | exact isB_o | exact iI_in' (by assumption) (by omega) (by omega) | exact cat_int _ | exact cat_ref _ | exact cat_null | decide) only [↓x_69_59, ↓x_69_60, ↓x_69_61, up1_same, up1_ne, up1_up1, us_0, us_1, us_2, us_3, us_4, us_5, us_6, us_7, us_8, us_9, us_10, us_11, rw_zero, rw_succ, Option.toList_some, Option.toList_none, List.cons_append, List.nil_append, cat_int, cat_ref, cat_null, iI_add, iI_sub, iI_mul, iI_neg, List.length_cons, List.length_nil, ↓reduceIte, va_rf_some, exR, wiR, wkW, wkR, orR, rdR]
          exact ih r.1 (tkE T i) r.2 V' A' _ (by omega) hb.2 (by omega) q1 q3 hV' hA' hE
    · rw [if_neg c] at hE
      exact fin due i D V A a3 c hi hd hx hD hV hA hE
/-- what the text tells -/
def fpT (T : List Int) : Int × List Int := fpF T T.length 0 0 []
theorem k_faultPlace (hK : exK t) (hx : V 3 = exR T.length it u) (hH : tH A T) (hQ : hqD t V A P Q T.length u (fpT T)) : Call (d + 4) 69 [.ref 3] (t, V, A, P) Q := by
  have k0 := hK.1
  simp (disch := first | assumption | omega | exact isB_z | exact isB_o | exact iI_in' (by assumption) (by omega) (by omega) | exact cat_int _ | exact cat_ref _ | exact cat_null | decide) only [c_69, ↓x_69_0, ↓x_69_1, ↓x_69_2, ↓x_69_3, ↓x_69_4, ↓x_69_5, ↓x_69_6, up1_same, up1_ne, up1_up1, us_0, us_1, us_2, us_3, us_4, us_5, us_6, us_7, us_8, us_9, us_10, us_11, rw_zero, rw_succ, Option.toList_some, Option.toList_none, List.cons_append, List.nil_append, cat_int, cat_ref, cat_null, iI_add, iI_sub, iI_mul, iI_neg, List.length_cons, List.length_nil, ↓reduceIte, va_rf_some, exR, wiR, wkW, wkR, orR, rdR, hx]
  exact fp_loop hK hH hQ T.length 0 0 [] _ A _ (by omega) (by omega) (by omega) (up1_same _ _ _) ⟨by simp, fun j hj => absurd hj (by simp)⟩ (fun a ha => up1_ne ha) (fun _ _ => rfl) rfl
def snA : aW → List Int → aW
  | X, [] => X
  | X, k :: l => snA (sX X k) l
def aTells (S : aS) : Int × aS := if 0 ≤ (fpT S.T).1 then (-10 - (fpT S.T).1, S) else if 32 < S.X.1.length + (fpT S.T).2.length then (-3, S) else ((fpT S.T).2.length, aS.mk (snA S.X (fpT S.T).2) (pu S.U S.X) S.I [])
theorem RX.noText {V' : Nat → Nat → Value} {i : Int} (h : RX V A P S e) (h3 : V' 3 = exR 0 i S.U.length) (hV : ∀ a, a ≠ 3 → V' a = V a) : RX V' A P (aS.mk S.X S.U S.I []) e := by
  refine ⟨⟨i, h3⟩, wiH_eq h.wi (hV _ (by omega)) rfl rfl rfl, h.wo, h.ul, h.ep, h.ei, fun j hj => ?_, fun i hi => ?_, h.ip, fun j hj => ?_, fun i hi => imH_eq (h.im i hi) (hV _ (by omega)) rfl rfl rfl rfl, Nat.zero_le _, fun i hi => absurd hi (Nat.not_lt_zero _), scr_eq h.sc (fun a ha => hV _ (by omega)), h.op⟩
  · rw [hV _ (by omega)]; exact h.er j hj
  · exact ⟨wiH_eq (h.ew i hi).1 (hV _ (by omega)) rfl rfl rfl, (h.ew i hi).2⟩
  · rw [hV _ (by omega)]; exact h.ir j hj
theorem snA_app : ∀ (l : List Int) (X : aW) (k : Int), snA X (l ++ [k]) = sX (snA X l) k := by
  intro l
  induction l with
  | nil => intro X k; rfl
  | cons a l ih => intro X k; exact ih _ k
end
