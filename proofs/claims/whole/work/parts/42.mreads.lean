/-! THE MODEL: the text read, whole; tells -/
section
variable {d : Nat} {t : mL} {V : Nat → Nat → Value} {A : Nat → Nat → Int32} {P : Nat → Nat → Option Nat} {μ : mM} {Q : Option Value → mM → Prop} {S : aS} {g : Nat → Int} {T : List Int}
set_option maxHeartbeats 1000000 in
theorem rt_loop {E : Int × List Int} {g0 : Nat → Int} {A0 : Nat → Nat → Int32} (hK : mK t) (hT : txH g0 A0 T) (hQ : ∀ (g' : Nat → Int) (A' : Nat → Nat → Int32), rtF g0 g' → (∀ a, a ≠ 68 → A' a = A0 a) → g' 17 = (if E.1 = -1 then -9 else E.1) → (E.1 = -1 → g' 9 = E.2.length ∧ ∀ j : Nat, j < E.2.length → A' 68 j = iI (E.2.getD j 0)) → Q none (t, up1 V 62 (mdR g'), A', P)) :
    ∀ (m p : Nat) (D : List Int) (g : Nat → Int) (A : Nat → Nat → Int32) (a1 a2 : Value), T.length - p < m → p ≤ T.length → (p < T.length → ¬ T.getD p 0 = 32) → tkS T p g → g 17 = -9 → g 9 = D.length → (∀ j : Nat, j < D.length → A 68 j = iI (D.getD j 0)) → 3 * D.length ≤ p → fpG T 0 p D = E → rtF g0 g → (∀ a, a ≠ 68 → A a = A0 a) → a1.category = 1 → a2.category = 1 → Ev (d + 4) 90 20 [.ref 62, a1, a2] [] (t, up1 V 62 (mdR g), A, P) Q := by
  have hK' := hK
  obtain ⟨m0, ⟨m1, l1⟩, ⟨m2, l2⟩, ⟨m3, l3⟩, ⟨m4, l4⟩, ⟨m5, l5⟩, ⟨m6, l6⟩, ⟨m7, l7⟩, ⟨m8, l8⟩, ⟨m9, l9⟩, ⟨m10, l10⟩, ⟨m11, l11⟩, ⟨m12, l12⟩, ⟨m13, l13⟩, ⟨m14, l14⟩, m15, l15⟩ := hK
  have hl := hT.2.1
  have hF : ∀ z : Int, 0 ≤ z → E.1 = z → ∀ (g' : Nat → Int) (A' : Nat → Nat → Int32), rtF g0 g' → (∀ a, a ≠ 68 → A' a = A0 a) → g' 17 = z → Q none (t, up1 V 62 (mdR g'), A', P) := fun z hz hE g' A' q1 q2 q3 => hQ g' A' q1 q2 (by rw [if_neg (by omega), q3, hE]) (fun h => by omega)
  intro m
  induction m with
  | zero => intro p D g A a1 a2 hm; omega
  | succ m ih =>
    intro p D g A a1 a2 hm hp hnb hS h17 h9 hD h3 hE hg hA x1 x2
    have hb := tkT_b T p
    have tk := hS.tk
    have vb := hS.vb
    have pl := hS.pl
    have hT' : txH g A T := ⟨(hg 7 (by omega) (by omega)).trans hT.1, hT.2.1, fun i hi => by rw [hA 67 (by omega)]; exact hT.2.2 i hi⟩
    have hRb : ∀ g' : Nat → Int, g' 17 = p → g' 9 = D.length → g' 15 = tkT T p → g' 16 = g 16 → rb g' p D.length := fun g' q1 q2 q3 q4 => ⟨q1, q2, by omega, by omega, by omega, by omega⟩
    rw [x_90_20]
    -- a fault at the first token
    have hbad : ¬ tkT T p = 1 → E.1 = p → Ev (d + 4) 90 43 [.ref 62, a1, a2] [] (t, up1 V 62 (mdR g), A, P) Q := fun c1 hz => by
      have hR := hRb (up1 g 17 (g 14)) (by rw [up1_same]; exact pl) (by rw [up1_ne (by omega)]; exact h9) (by rw [up1_ne (by omega)]; exact tk) (up1_ne (by omega))
      have hfr : rtF g0 (up1 g 17 (g 14)) := fun k h1 h2 => by rw [up1_ne (by omega)]; exact hg k h1 h2
      simp (disch := first | assumption | omega | exact isB_z | exact isB_o | exact iI_in' (by assumption) (by omega) (by omega) | exact cat_int _ | exact cat_ref _ | exact cat_null | decide) only [↓x_90_43, ↓x_90_44, ↓x_90_45, ↓x_90_48, ↓x_90_49, ↓x_90_52, ↓x_90_53, ↓x_90_56, ↓x_90_57, up1_same, up1_ne, up1_up1, us_0, us_1, us_2, us_3, us_4, us_5, us_6, us_7, us_8, us_9, us_10, us_11, rw_zero, rw_succ, Option.toList_some, Option.toList_none, List.cons_append, List.nil_append, cat_int, cat_ref, cat_null, iI_add, iI_sub, iI_mul, iI_neg, List.length_cons, List.length_nil, ↓reduceIte, va_rf_some, Int.reduceToNat, md_0, md_1, md_2, md_3, md_4, md_5, md_6, md_7, md_8, md_9, md_10, md_11, md_12, md_13, md_14, md_15, md_16, md_17, md_18, md_19, md_20, md_21, md_22, md_23, md_24, md_25, md_26, md_27, md_28, md_29, md_30, md_31, mu_0, mu_3, mu_7, mu_9, mu_12, mu_13, mu_14, mu_15, mu_16, mu_17, mu_18, mu_23, mu_24, mu_26, mu_27, mu_28, mu_29, i10, iI_eq, iI_lt, iI_cl, if_true, if_false, and_self, tk, c1, k_takes_no hK' h17]
      by_cases c2 : g 16 = 100
      · simp (disch := first | assumption | omega | exact isB_z | exact isB_o | exact iI_in' (by assumption) (by omega) (by omega) | exact cat_int _ | exact cat_ref _ | exact cat_null | decide) only [↓x_90_60, ↓x_90_62, ↓x_90_65, ↓x_90_66, ↓x_90_69, ↓x_90_70, up1_same, up1_ne, up1_up1, us_0, us_1, us_2, us_3, us_4, us_5, us_6, us_7, us_8, us_9, us_10, us_11, rw_zero, rw_succ, Option.toList_some, Option.toList_none, List.cons_append, List.nil_append, cat_int, cat_ref, cat_null, iI_add, iI_sub, iI_mul, iI_neg, List.length_cons, List.length_nil, ↓reduceIte, va_rf_some, Int.reduceToNat, md_0, md_1, md_2, md_3, md_4, md_5, md_6, md_7, md_8, md_9, md_10, md_11, md_12, md_13, md_14, md_15, md_16, md_17, md_18, md_19, md_20, md_21, md_22, md_23, md_24, md_25, md_26, md_27, md_28, md_29, md_30, md_31, mu_0, mu_3, mu_7, mu_9, mu_12, mu_13, mu_14, mu_15, mu_16, mu_17, mu_18, mu_23, mu_24, mu_26, mu_27, mu_28, mu_29, i10, iI_eq, iI_lt, iI_cl, if_true, if_false, and_self, c2]
        exact rt_bad1 hK' hR (Or.inr rfl) x2 hfr hA (hF p (by omega) hz)
      · simp (disch := first | assumption | omega | exact isB_z | exact isB_o | exact iI_in' (by assumption) (by omega) (by omega) | exact cat_int _ | exact cat_ref _ | exact cat_null | decide) only [↓x_90_60, ↓x_90_62, ↓x_90_65, ↓x_90_66, ↓x_90_69, ↓x_90_70, up1_same, up1_ne, up1_up1, us_0, us_1, us_2, us_3, us_4, us_5, us_6, us_7, us_8, us_9, us_10, us_11, rw_zero, rw_succ, Option.toList_some, Option.toList_none, List.cons_append, List.nil_append, cat_int, cat_ref, cat_null, iI_add, iI_sub, iI_mul, iI_neg, List.length_cons, List.length_nil, ↓reduceIte, va_rf_some, Int.reduceToNat, md_0, md_1, md_2, md_3, md_4, md_5, md_6, md_7, md_8, md_9, md_10, md_11, md_12, md_13, md_14, md_15, md_16, md_17, md_18, md_19, md_20, md_21, md_22, md_23, md_24, md_25, md_26, md_27, md_28, md_29, md_30, md_31, mu_0, mu_3, mu_7, mu_9, mu_12, mu_13, mu_14, mu_15, mu_16, mu_17, mu_18, mu_23, mu_24, mu_26, mu_27, mu_28, mu_29, i10, iI_eq, iI_lt, iI_cl, if_true, if_false, and_self, c2]
        exact rt_bad1 hK' hR (Or.inl rfl) x2 hfr hA (hF p (by omega) hz)
    by_cases cp : p < T.length
    · have hnz := tkT_0 cp
      have hfp := fpG_tok (due := 0) (D := D) cp (hnb cp)
      rw [hE] at hfp
      simp (disch := first | assumption | omega | exact isB_z | exact isB_o | exact iI_in' (by assumption) (by omega) (by omega) | exact cat_int _ | exact cat_ref _ | exact cat_null | decide) only [↓x_90_21, ↓x_90_24, ↓x_90_26, ↓x_90_29, ↓x_90_30, ↓x_90_33, up1_same, up1_ne, up1_up1, us_0, us_1, us_2, us_3, us_4, us_5, us_6, us_7, us_8, us_9, us_10, us_11, rw_zero, rw_succ, Option.toList_some, Option.toList_none, List.cons_append, List.nil_append, cat_int, cat_ref, cat_null, iI_add, iI_sub, iI_mul, iI_neg, List.length_cons, List.length_nil, ↓reduceIte, va_rf_some, Int.reduceToNat, md_0, md_1, md_2, md_3, md_4, md_5, md_6, md_7, md_8, md_9, md_10, md_11, md_12, md_13, md_14, md_15, md_16, md_17, md_18, md_19, md_20, md_21, md_22, md_23, md_24, md_25, md_26, md_27, md_28, md_29, md_30, md_31, mu_0, mu_3, mu_7, mu_9, mu_12, mu_13, mu_14, mu_15, mu_16, mu_17, mu_18, mu_23, mu_24, mu_26, mu_27, mu_28, mu_29, i10, iI_eq, iI_lt, iI_cl, if_true, if_false, and_self, h17, tk, hnz]
      by_cases c1 : tkT T p = 1
      · have hc := (tkT_1 cp).1 c1
        have nf : ¬ fg T p := fun q => by have := q.2; omega
        have hkE := tkE_1 cp nf
        have hv : g 16 = T.getD p 0 := hS.vl cp nf
        have ha := hS.at'
        rw [if_pos cp, hkE] at ha
        have hb1 := sk_b (T := T) (i := p + 1) (by omega)
        -- what is due, what may stand there
        obtain ⟨b, due, kk, base, hbd, hb01, haf, hR1⟩ : ∃ b due kk base : Int, (if g 16 = 100 then (1 : Int) else 0) = b ∧ (b = 0 ∨ b = 1) ∧ afT T 0 p (tkE T p) D = (due, D) ∧ ((b = 1 ∧ due = 1 ∧ kk = 30 ∧ base = 0) ∨ (b = 0 ∧ due = 2 ∧ kk = 2 ∧ base = 31)) := by
          by_cases c2 : T.getD p 0 = 100
          · exact ⟨1, 1, 30, 0, by rw [hv, if_pos c2], Or.inr rfl, by unfold afT; rw [if_pos rfl, if_pos c2], Or.inl ⟨rfl, rfl, rfl, rfl⟩⟩
          · exact ⟨0, 2, 2, 31, by rw [hv, if_neg c2], Or.inl rfl, by unfold afT; rw [if_pos rfl, if_neg c2, if_pos (by omega)], Or.inr ⟨rfl, rfl, rfl, rfl⟩⟩
        rw [haf, if_neg (by simp only; omega), hkE] at hfp
        simp only at hfp
        rw [fpG_sk] at hfp
        simp (disch := first | assumption | omega | exact isB_z | exact isB_o | exact iI_in' (by assumption) (by omega) (by omega) | exact cat_int _ | exact cat_ref _ | exact cat_null | decide) only [↓x_90_43, ↓x_90_44, ↓x_90_45, ↓x_90_48, ↓x_90_49, ↓x_90_52, ↓x_90_53, ↓x_90_56, up1_same, up1_ne, up1_up1, us_0, us_1, us_2, us_3, us_4, us_5, us_6, us_7, us_8, us_9, us_10, us_11, rw_zero, rw_succ, Option.toList_some, Option.toList_none, List.cons_append, List.nil_append, cat_int, cat_ref, cat_null, iI_add, iI_sub, iI_mul, iI_neg, List.length_cons, List.length_nil, ↓reduceIte, va_rf_some, Int.reduceToNat, md_0, md_1, md_2, md_3, md_4, md_5, md_6, md_7, md_8, md_9, md_10, md_11, md_12, md_13, md_14, md_15, md_16, md_17, md_18, md_19, md_20, md_21, md_22, md_23, md_24, md_25, md_26, md_27, md_28, md_29, md_30, md_31, mu_0, mu_3, mu_7, mu_9, mu_12, mu_13, mu_14, mu_15, mu_16, mu_17, mu_18, mu_23, mu_24, mu_26, mu_27, mu_28, mu_29, i10, iI_eq, iI_lt, iI_cl, if_true, if_false, and_self, tk, c1]
        simp (disch := first | assumption | omega | exact isB_z | exact isB_o | exact iI_in' (by assumption) (by omega) (by omega) | exact cat_int _ | exact cat_ref _ | exact cat_null | decide) only [↓x_90_57, up1_same, up1_ne, up1_up1, us_0, us_1, us_2, us_3, us_4, us_5, us_6, us_7, us_8, us_9, us_10, us_11, rw_zero, rw_succ, Option.toList_some, Option.toList_none, List.cons_append, List.nil_append, cat_int, cat_ref, cat_null, iI_add, iI_sub, iI_mul, iI_neg, List.length_cons, List.length_nil, ↓reduceIte, va_rf_some, Int.reduceToNat, md_0, md_1, md_2, md_3, md_4, md_5, md_6, md_7, md_8, md_9, md_10, md_11, md_12, md_13, md_14, md_15, md_16, md_17, md_18, md_19, md_20, md_21, md_22, md_23, md_24, md_25, md_26, md_27, md_28, md_29, md_30, md_31, mu_0, mu_3, mu_7, mu_9, mu_12, mu_13, mu_14, mu_15, mu_16, mu_17, mu_18, mu_23, mu_24, mu_26, mu_27, mu_28, mu_29, i10, iI_eq, iI_lt, iI_cl, if_true, if_false, and_self]
        refine k_takes_yes hK' hT' (i := p + 1) (by omega) ha vb h17 (fun g1 q1 S1 => ?_)
        have hT1 : txH g1 A T := ⟨(q1 7 (by omega)).trans hT'.1, hT'.2⟩
        have g17 : g1 17 = -9 := (q1 17 (by omega)).trans h17
        have g19 : g1 9 = D.length := (q1 9 (by omega)).trans h9
        have gfr : rtF g0 g1 := fun k h1 h2 => (q1 k (by omega)).trans (hg k h1 h2)
        have hiB : Ev (d + 4) 90 60 [.ref 62, a1, a2] [.int (iI (g 16))] (t, up1 V 62 (mdR g1), A, P) Q = Ev (d + 4) 90 71 [.ref 62, .int (iI b), a2] [] (t, up1 V 62 (mdR g1), A, P) Q := by
          rw [← hbd]
          by_cases c2 : g 16 = 100
          · simp (disch := first | assumption | omega | exact isB_z | exact isB_o | exact iI_in' (by assumption) (by omega) (by omega) | exact cat_int _ | exact cat_ref _ | exact cat_null | decide) only [↓x_90_60, ↓x_90_62, ↓x_90_65, ↓x_90_66, ↓x_90_69, ↓x_90_70, up1_same, up1_ne, up1_up1, us_0, us_1, us_2, us_3, us_4, us_5, us_6, us_7, us_8, us_9, us_10, us_11, rw_zero, rw_succ, Option.toList_some, Option.toList_none, List.cons_append, List.nil_append, cat_int, cat_ref, cat_null, iI_add, iI_sub, iI_mul, iI_neg, List.length_cons, List.length_nil, ↓reduceIte, va_rf_some, Int.reduceToNat, md_0, md_1, md_2, md_3, md_4, md_5, md_6, md_7, md_8, md_9, md_10, md_11, md_12, md_13, md_14, md_15, md_16, md_17, md_18, md_19, md_20, md_21, md_22, md_23, md_24, md_25, md_26, md_27, md_28, md_29, md_30, md_31, mu_0, mu_3, mu_7, mu_9, mu_12, mu_13, mu_14, mu_15, mu_16, mu_17, mu_18, mu_23, mu_24, mu_26, mu_27, mu_28, mu_29, i10, iI_eq, iI_lt, iI_cl, if_true, if_false, and_self, c2]
          · simp (disch := first | assumption | omega | exact isB_z | exact isB_o | exact iI_in' (by assumption) (by omega) (by omega) | exact cat_int _ | exact cat_ref _ | exact cat_null | decide) only [↓x_90_60, ↓x_90_62, ↓x_90_65, ↓x_90_66, ↓x_90_69, ↓x_90_70, up1_same, up1_ne, up1_up1, us_0, us_1, us_2, us_3, us_4, us_5, us_6, us_7, us_8, us_9, us_10, us_11, rw_zero, rw_succ, Option.toList_some, Option.toList_none, List.cons_append, List.nil_append, cat_int, cat_ref, cat_null, iI_add, iI_sub, iI_mul, iI_neg, List.length_cons, List.length_nil, ↓reduceIte, va_rf_some, Int.reduceToNat, md_0, md_1, md_2, md_3, md_4, md_5, md_6, md_7, md_8, md_9, md_10, md_11, md_12, md_13, md_14, md_15, md_16, md_17, md_18, md_19, md_20, md_21, md_22, md_23, md_24, md_25, md_26, md_27, md_28, md_29, md_30, md_31, mu_0, mu_3, mu_7, mu_9, mu_12, mu_13, mu_14, mu_15, mu_16, mu_17, mu_18, mu_23, mu_24, mu_26, mu_27, mu_28, mu_29, i10, iI_eq, iI_lt, iI_cl, if_true, if_false, and_self, c2]
        simp only [Option.toList_some, List.cons_append, List.nil_append]
        rw [hiB]
        obtain ⟨p1, hp1⟩ : ∃ p1, p1 = sk T (p + 1) := ⟨_, rfl⟩
        rw [← hp1] at hb1 hfp S1
        have tk1 := S1.tk
        have vb1 := S1.vb
        have pl1 := S1.pl
        have tb1 := tkT_b T p1
        clear hiB hbad hp1
        -- a fault at the number
        have hbad2 : E.1 = p1 → Ev (d + 4) 90 105 [.ref 62, .int (iI b), a2] [.ref 62] (t, up1 V 62 (mdR g1), A, P) Q := fun hz => by
          have hR : rb (up1 g1 17 (g1 14)) p1 D.length := ⟨by rw [up1_same]; exact pl1, by rw [up1_ne (by omega)]; exact g19, by rw [up1_ne (by omega), tk1]; exact tb1, by rw [up1_ne (by omega)]; exact vb1, by omega, by omega⟩
          have hfr : rtF g0 (up1 g1 17 (g1 14)) := fun k h1 h2 => by rw [up1_ne (by omega)]; exact gfr k h1 h2
          simp (disch := first | assumption | omega | exact isB_z | exact isB_o | exact iI_in' (by assumption) (by omega) (by omega) | exact cat_int _ | exact cat_ref _ | exact cat_null | decide) only [↓x_90_105, ↓x_90_106, ↓x_90_109, up1_same, up1_ne, up1_up1, us_0, us_1, us_2, us_3, us_4, us_5, us_6, us_7, us_8, us_9, us_10, us_11, rw_zero, rw_succ, Option.toList_some, Option.toList_none, List.cons_append, List.nil_append, cat_int, cat_ref, cat_null, iI_add, iI_sub, iI_mul, iI_neg, List.length_cons, List.length_nil, ↓reduceIte, va_rf_some, Int.reduceToNat, md_0, md_1, md_2, md_3, md_4, md_5, md_6, md_7, md_8, md_9, md_10, md_11, md_12, md_13, md_14, md_15, md_16, md_17, md_18, md_19, md_20, md_21, md_22, md_23, md_24, md_25, md_26, md_27, md_28, md_29, md_30, md_31, mu_0, mu_3, mu_7, mu_9, mu_12, mu_13, mu_14, mu_15, mu_16, mu_17, mu_18, mu_23, mu_24, mu_26, mu_27, mu_28, mu_29, i10, iI_eq, iI_lt, iI_cl, if_true, if_false, and_self, k_takes_no hK' g17]
          exact rt_bad2 hK' hR hb01 hfr hA (hF p1 (by omega) hz)
        by_cases cp1 : p1 < T.length
        · have hfp1 := fpG_tok (due := due) (D := D) cp1 (hb1.2.2 cp1)
          rw [← hfp] at hfp1
          have haf1 : afT T due p1 (tkE T p1) D = afN D (nuA T p1 (tkE T p1)) base (kk + 1) := by
            unfold afT
            rcases hR1 with ⟨r1, r2, r3, r4⟩ | ⟨r1, r2, r3, r4⟩
            · rw [if_neg (by omega), if_pos r2, r3, r4]; rfl
            · rw [if_neg (by omega), if_neg (by omega), if_pos r2, r3, r4]; rfl
          rw [haf1] at hfp1
          by_cases c2 : tkT T p1 = 2
          · have hnu := (tkT_2 cp1).1 c2
            have hv1 := S1.vn cp1 c2
            have nf1 : fg T p1 := by
              unfold tkT at c2
              rw [if_neg (by omega)] at c2
              split at c2
              · assumption
              · split at c2
                · omega
                · split at c2 <;> omega
            have hn0 : 0 ≤ nuA T p1 (tkE T p1) := by
              have := (nu_val nf1).1
              rcases (nu_val nf1).2 with q | q
              · rw [if_pos q] at this; exact absurd this hnu
              · exact q
            have hkb := tkE_b cp1
            have ha1 := S1.at'
            rw [if_pos cp1] at ha1
            generalize nuA T p1 (tkE T p1) = n at *
            by_cases c3 : 0 ≤ g1 16 ∧ g1 16 ≤ kk
            · have hin : Ev (d + 4) 90 71 [.ref 62, .int (iI b), a2] [] (t, up1 V 62 (mdR g1), A, P) Q = Ev (d + 4) 90 106 [.ref 62, .int (iI b), a2] [.int (iI 1), .ref 62] (t, up1 V 62 (mdR g1), A, P) Q := by
                rcases hR1 with ⟨r1, r2, r3, r4⟩ | ⟨r1, r2, r3, r4⟩
                · subst r1
                  subst r3
                  simp (disch := first | assumption | omega | exact isB_z | exact isB_o | exact iI_in' (by assumption) (by omega) (by omega) | exact cat_int _ | exact cat_ref _ | exact cat_null | decide) only [↓x_90_71, ↓x_90_72, ↓x_90_73, ↓x_90_76, ↓x_90_77, ↓x_90_80, ↓x_90_81, ↓x_90_84, ↓x_90_85, ↓x_90_86, ↓x_90_89, ↓x_90_91, ↓x_90_94, ↓x_90_95, ↓x_90_98, ↓x_90_101, ↓x_90_102, up1_same, up1_ne, up1_up1, us_0, us_1, us_2, us_3, us_4, us_5, us_6, us_7, us_8, us_9, us_10, us_11, rw_zero, rw_succ, Option.toList_some, Option.toList_none, List.cons_append, List.nil_append, cat_int, cat_ref, cat_null, iI_add, iI_sub, iI_mul, iI_neg, List.length_cons, List.length_nil, ↓reduceIte, va_rf_some, Int.reduceToNat, md_0, md_1, md_2, md_3, md_4, md_5, md_6, md_7, md_8, md_9, md_10, md_11, md_12, md_13, md_14, md_15, md_16, md_17, md_18, md_19, md_20, md_21, md_22, md_23, md_24, md_25, md_26, md_27, md_28, md_29, md_30, md_31, mu_0, mu_3, mu_7, mu_9, mu_12, mu_13, mu_14, mu_15, mu_16, mu_17, mu_18, mu_23, mu_24, mu_26, mu_27, mu_28, mu_29, i10, iI_eq, iI_lt, iI_cl, if_true, if_false, and_self, tk1, c2, k_in, c3]
                · subst r1
                  subst r3
                  simp (disch := first | assumption | omega | exact isB_z | exact isB_o | exact iI_in' (by assumption) (by omega) (by omega) | exact cat_int _ | exact cat_ref _ | exact cat_null | decide) only [↓x_90_71, ↓x_90_72, ↓x_90_73, ↓x_90_76, ↓x_90_77, ↓x_90_80, ↓x_90_81, ↓x_90_84, ↓x_90_85, ↓x_90_86, ↓x_90_89, ↓x_90_91, ↓x_90_94, ↓x_90_95, ↓x_90_98, ↓x_90_101, ↓x_90_102, up1_same, up1_ne, up1_up1, us_0, us_1, us_2, us_3, us_4, us_5, us_6, us_7, us_8, us_9, us_10, us_11, rw_zero, rw_succ, Option.toList_some, Option.toList_none, List.cons_append, List.nil_append, cat_int, cat_ref, cat_null, iI_add, iI_sub, iI_mul, iI_neg, List.length_cons, List.length_nil, ↓reduceIte, va_rf_some, Int.reduceToNat, md_0, md_1, md_2, md_3, md_4, md_5, md_6, md_7, md_8, md_9, md_10, md_11, md_12, md_13, md_14, md_15, md_16, md_17, md_18, md_19, md_20, md_21, md_22, md_23, md_24, md_25, md_26, md_27, md_28, md_29, md_30, md_31, mu_0, mu_3, mu_7, mu_9, mu_12, mu_13, mu_14, mu_15, mu_16, mu_17, mu_18, mu_23, mu_24, mu_26, mu_27, mu_28, mu_29, i10, iI_eq, iI_lt, iI_cl, if_true, if_false, and_self, tk1, c2, k_in, c3]
              have hafN : afN D n base (kk + 1) = (3, D ++ [base + n]) := by unfold afN; rw [if_neg (by omega)]
              rw [hafN, if_neg (by simp only; omega)] at hfp1
              simp only at hfp1
              rw [fpG_sk] at hfp1
              have hb2 := sk_b (T := T) (i := tkE T p1) hkb.2
              rw [hin]
              simp (disch := first | assumption | omega | exact isB_z | exact isB_o | exact iI_in' (by assumption) (by omega) (by omega) | exact cat_int _ | exact cat_ref _ | exact cat_null | decide) only [↓x_90_106, up1_same, up1_ne, up1_up1, us_0, us_1, us_2, us_3, us_4, us_5, us_6, us_7, us_8, us_9, us_10, us_11, rw_zero, rw_succ, Option.toList_some, Option.toList_none, List.cons_append, List.nil_append, cat_int, cat_ref, cat_null, iI_add, iI_sub, iI_mul, iI_neg, List.length_cons, List.length_nil, ↓reduceIte, va_rf_some, Int.reduceToNat, md_0, md_1, md_2, md_3, md_4, md_5, md_6, md_7, md_8, md_9, md_10, md_11, md_12, md_13, md_14, md_15, md_16, md_17, md_18, md_19, md_20, md_21, md_22, md_23, md_24, md_25, md_26, md_27, md_28, md_29, md_30, md_31, mu_0, mu_3, mu_7, mu_9, mu_12, mu_13, mu_14, mu_15, mu_16, mu_17, mu_18, mu_23, mu_24, mu_26, mu_27, mu_28, mu_29, i10, iI_eq, iI_lt, iI_cl, if_true, if_false, and_self]
              refine k_takes_yes hK' hT1 (i := tkE T p1) hkb.2 ha1 vb1 g17 (fun g2 q2 S2 => ?_)
              have hT2 : txH g2 A T := ⟨(q2 7 (by omega)).trans hT1.1, hT1.2⟩
              have k17 : g2 17 = -9 := (q2 17 (by omega)).trans g17
              have k19 : g2 9 = D.length := (q2 9 (by omega)).trans g19
              have kfr : rtF g0 g2 := fun k h1 h2 => (q2 k (by omega)).trans (gfr k h1 h2)
              simp (disch := first | assumption | omega | exact isB_z | exact isB_o | exact iI_in' (by assumption) (by omega) (by omega) | exact cat_int _ | exact cat_ref _ | exact cat_null | decide) only [↓x_90_109, up1_same, up1_ne, up1_up1, us_0, us_1, us_2, us_3, us_4, us_5, us_6, us_7, us_8, us_9, us_10, us_11, rw_zero, rw_succ, Option.toList_some, Option.toList_none, List.cons_append, List.nil_append, cat_int, cat_ref, cat_null, iI_add, iI_sub, iI_mul, iI_neg, List.length_cons, List.length_nil, ↓reduceIte, va_rf_some, Int.reduceToNat, md_0, md_1, md_2, md_3, md_4, md_5, md_6, md_7, md_8, md_9, md_10, md_11, md_12, md_13, md_14, md_15, md_16, md_17, md_18, md_19, md_20, md_21, md_22, md_23, md_24, md_25, md_26, md_27, md_28, md_29, md_30, md_31, mu_0, mu_3, mu_7, mu_9, mu_12, mu_13, mu_14, mu_15, mu_16, mu_17, mu_18, mu_23, mu_24, mu_26, mu_27, mu_28, mu_29, i10, iI_eq, iI_lt, iI_cl, if_true, if_false, and_self]
              obtain ⟨p2, hp2⟩ : ∃ p2, p2 = sk T (tkE T p1) := ⟨_, rfl⟩
              rw [← hp2] at hb2 hfp1 S2
              have tk2 := S2.tk
              have vb2 := S2.vb
              have pl2 := S2.pl
              have tb2 := tkT_b T p2
              clear hin hbad2 hp2
              by_cases c4 : p2 < T.length ∧ tkT T p2 = 3
              · obtain ⟨cp2, c4⟩ := c4
                have h59 := (tkT_3 cp2).1 c4
                have nf2 : ¬ fg T p2 := fun q => by have := q.2; omega
                have hkE2 := tkE_1 cp2 nf2
                have ha2 := S2.at'
                rw [if_pos cp2, hkE2] at ha2
                have hfp2 := fpG_tok (due := 3) (D := D ++ [base + n]) cp2 (hb2.2.2 cp2)
                rw [← hfp1] at hfp2
                have haf2 : afT T 3 p2 (tkE T p2) (D ++ [base + n]) = (0, D ++ [base + n]) := by
                  unfold afT
                  rw [if_neg (by omega), if_neg (by omega), if_neg (by omega), if_pos h59]
                rw [haf2, if_neg (by simp only; omega), hkE2] at hfp2
                simp only at hfp2
                rw [fpG_sk] at hfp2
                have hb3 := sk_b (T := T) (i := p2 + 1) (by omega)
                simp (disch := first | assumption | omega | exact isB_z | exact isB_o | exact iI_in' (by assumption) (by omega) (by omega) | exact cat_int _ | exact cat_ref _ | exact cat_null | decide) only [↓x_90_110, ↓x_90_111, ↓x_90_112, ↓x_90_115, ↓x_90_116, ↓x_90_119, ↓x_90_120, up1_same, up1_ne, up1_up1, us_0, us_1, us_2, us_3, us_4, us_5, us_6, us_7, us_8, us_9, us_10, us_11, rw_zero, rw_succ, Option.toList_some, Option.toList_none, List.cons_append, List.nil_append, cat_int, cat_ref, cat_null, iI_add, iI_sub, iI_mul, iI_neg, List.length_cons, List.length_nil, ↓reduceIte, va_rf_some, Int.reduceToNat, md_0, md_1, md_2, md_3, md_4, md_5, md_6, md_7, md_8, md_9, md_10, md_11, md_12, md_13, md_14, md_15, md_16, md_17, md_18, md_19, md_20, md_21, md_22, md_23, md_24, md_25, md_26, md_27, md_28, md_29, md_30, md_31, mu_0, mu_3, mu_7, mu_9, mu_12, mu_13, mu_14, mu_15, mu_16, mu_17, mu_18, mu_23, mu_24, mu_26, mu_27, mu_28, mu_29, i10, iI_eq, iI_lt, iI_cl, if_true, if_false, and_self, tk2, c4]
                simp (disch := first | assumption | omega | exact isB_z | exact isB_o | exact iI_in' (by assumption) (by omega) (by omega) | exact cat_int _ | exact cat_ref _ | exact cat_null | decide) only [↓x_90_124, up1_same, up1_ne, up1_up1, us_0, us_1, us_2, us_3, us_4, us_5, us_6, us_7, us_8, us_9, us_10, us_11, rw_zero, rw_succ, Option.toList_some, Option.toList_none, List.cons_append, List.nil_append, cat_int, cat_ref, cat_null, iI_add, iI_sub, iI_mul, iI_neg, List.length_cons, List.length_nil, ↓reduceIte, va_rf_some, Int.reduceToNat, md_0, md_1, md_2, md_3, md_4, md_5, md_6, md_7, md_8, md_9, md_10, md_11, md_12, md_13, md_14, md_15, md_16, md_17, md_18, md_19, md_20, md_21, md_22, md_23, md_24, md_25, md_26, md_27, md_28, md_29, md_30, md_31, mu_0, mu_3, mu_7, mu_9, mu_12, mu_13, mu_14, mu_15, mu_16, mu_17, mu_18, mu_23, mu_24, mu_26, mu_27, mu_28, mu_29, i10, iI_eq, iI_lt, iI_cl, if_true, if_false, and_self]
                refine k_takes_yes hK' hT2 (i := p2 + 1) (by omega) ha2 vb2 k17 (fun g3 q3 S3 => ?_)
                have j17 : g3 17 = -9 := (q3 17 (by omega)).trans k17
                have j19 : g3 9 = D.length := (q3 9 (by omega)).trans k19
                have jfr : rtF g0 g3 := fun k h1 h2 => (q3 k (by omega)).trans (kfr k h1 h2)
                obtain ⟨p3, hp3⟩ : ∃ p3, p3 = sk T (p2 + 1) := ⟨_, rfl⟩
                rw [← hp3] at hb3 hfp2 S3
                have tn1 : ((D.length : Nat) : Int).toNat = D.length := Int.toNat_natCast _
                have ci : (D.length : Int) + 1 = ((D ++ [base + n]).length : Int) := by simp
                have hlast : Ev (d + 4) 90 127 [.ref 62, .int (iI b), .int (iI (g1 16))] [.int (iI (g2 16))] (t, up1 V 62 (mdR g3), A, P) Q = Ev (d + 4) 90 20 [.ref 62, .int (iI b), .int (iI (g1 16))] [] (t, up1 V 62 (mdR (up1 g3 9 ((D ++ [base + n]).length : Int))), up1 A 68 (upd (A 68) D.length (iI (base + n))), P) Q := by
                  rw [hv1]
                  rcases hR1 with ⟨r1, r2, r3, r4⟩ | ⟨r1, r2, r3, r4⟩
                  · subst r1
                    subst r4
                    simp (disch := first | assumption | omega | exact isB_z | exact isB_o | exact iI_in' (by assumption) (by omega) (by omega) | exact cat_int _ | exact cat_ref _ | exact cat_null | decide) only [↓x_90_127, ↓x_90_128, ↓x_90_129, ↓x_90_132, ↓x_90_133, ↓x_90_136, ↓x_90_137, ↓x_90_140, ↓x_90_141, ↓x_90_144, ↓x_90_146, ↓x_90_147, ↓x_90_148, ↓x_90_149, ↓x_90_150, ↓x_90_151, ↓x_90_154, ↓x_90_155, ↓x_90_156, ↓x_90_159, up1_same, up1_ne, up1_up1, us_0, us_1, us_2, us_3, us_4, us_5, us_6, us_7, us_8, us_9, us_10, us_11, rw_zero, rw_succ, Option.toList_some, Option.toList_none, List.cons_append, List.nil_append, cat_int, cat_ref, cat_null, iI_add, iI_sub, iI_mul, iI_neg, List.length_cons, List.length_nil, ↓reduceIte, va_rf_some, Int.reduceToNat, md_0, md_1, md_2, md_3, md_4, md_5, md_6, md_7, md_8, md_9, md_10, md_11, md_12, md_13, md_14, md_15, md_16, md_17, md_18, md_19, md_20, md_21, md_22, md_23, md_24, md_25, md_26, md_27, md_28, md_29, md_30, md_31, mu_0, mu_3, mu_7, mu_9, mu_12, mu_13, mu_14, mu_15, mu_16, mu_17, mu_18, mu_23, mu_24, mu_26, mu_27, mu_28, mu_29, i10, iI_eq, iI_lt, iI_cl, if_true, if_false, and_self, j19, tn1, ci, Int.zero_add]
                  · subst r1
                    subst r4
                    simp (disch := first | assumption | omega | exact isB_z | exact isB_o | exact iI_in' (by assumption) (by omega) (by omega) | exact cat_int _ | exact cat_ref _ | exact cat_null | decide) only [↓x_90_127, ↓x_90_128, ↓x_90_129, ↓x_90_132, ↓x_90_133, ↓x_90_136, ↓x_90_137, ↓x_90_140, ↓x_90_141, ↓x_90_144, ↓x_90_146, ↓x_90_147, ↓x_90_148, ↓x_90_149, ↓x_90_150, ↓x_90_151, ↓x_90_154, ↓x_90_155, ↓x_90_156, ↓x_90_159, up1_same, up1_ne, up1_up1, us_0, us_1, us_2, us_3, us_4, us_5, us_6, us_7, us_8, us_9, us_10, us_11, rw_zero, rw_succ, Option.toList_some, Option.toList_none, List.cons_append, List.nil_append, cat_int, cat_ref, cat_null, iI_add, iI_sub, iI_mul, iI_neg, List.length_cons, List.length_nil, ↓reduceIte, va_rf_some, Int.reduceToNat, md_0, md_1, md_2, md_3, md_4, md_5, md_6, md_7, md_8, md_9, md_10, md_11, md_12, md_13, md_14, md_15, md_16, md_17, md_18, md_19, md_20, md_21, md_22, md_23, md_24, md_25, md_26, md_27, md_28, md_29, md_30, md_31, mu_0, mu_3, mu_7, mu_9, mu_12, mu_13, mu_14, mu_15, mu_16, mu_17, mu_18, mu_23, mu_24, mu_26, mu_27, mu_28, mu_29, i10, iI_eq, iI_lt, iI_cl, if_true, if_false, and_self, j19, tn1, ci]
                simp only [Option.toList_some, List.cons_append, List.nil_append]
                rw [hlast]
                refine ih p3 (D ++ [base + n]) _ _ _ _ (by omega) hb3.2.1 hb3.2.2 ⟨by rw [up1_ne (by omega)]; exact S3.at', by rw [up1_ne (by omega)]; exact S3.pl, by rw [up1_ne (by omega)]; exact S3.tk, fun h1 h2 => by rw [up1_ne (by omega)]; exact S3.vn h1 h2, fun h1 h2 => by rw [up1_ne (by omega)]; exact S3.vl h1 h2, by rw [up1_ne (by omega)]; exact S3.vb⟩ (by rw [up1_ne (by omega)]; exact j17) (up1_same _ _ _) (fun j hj => ?_) ?_ hfp2.symm (fun k h1 h2 => by rw [up1_ne h1]; exact jfr k h1 h2) (fun a ha => by rw [up1_ne ha]; exact hA a ha) rfl rfl
                · have hj' : j < D.length + 1 := by simpa using hj
                  rw [up1_same]
                  by_cases e : j = D.length
                  · subst e; rw [upd_same, getD_app_eq]
                  · rw [upd_ne e, getD_app_lt (by omega)]; exact hD j (by omega)
                · simp; omega
              · -- a fault at the end
                have hz : E.1 = p2 := by
                  by_cases cp2 : p2 < T.length
                  · have hfp2 := fpG_tok (due := 3) (D := D ++ [base + n]) cp2 (hb2.2.2 cp2)
                    rw [← hfp1] at hfp2
                    have h59 : ¬ T.getD p2 0 = 59 := fun q => c4 ⟨cp2, (tkT_3 cp2).2 q⟩
                    have haf2 : afT T 3 p2 (tkE T p2) (D ++ [base + n]) = (-1, D ++ [base + n]) := by
                      unfold afT
                      rw [if_neg (by omega), if_neg (by omega), if_neg (by omega), if_neg h59]
                    rw [haf2, if_pos rfl] at hfp2
                    rw [hfp2]
                  · rw [hfp1, fpG_end (by omega), if_neg (by omega)]
                    simp only
                    omega
                have c5 : ¬ tkT T p2 = 3 := fun q => by
                  by_cases cp2 : p2 < T.length
                  · exact c4 ⟨cp2, q⟩
                  · unfold tkT at q; rw [if_pos (by omega)] at q; omega
                have hR : rb (up1 g2 17 (g2 14)) p2 D.length := ⟨by rw [up1_same]; exact pl2, by rw [up1_ne (by omega)]; exact k19, by rw [up1_ne (by omega), tk2]; exact tb2, by rw [up1_ne (by omega)]; exact vb2, by omega, by omega⟩
                have hfr : rtF g0 (up1 g2 17 (g2 14)) := fun k h1 h2 => by rw [up1_ne (by omega)]; exact kfr k h1 h2
                simp (disch := first | assumption | omega | exact isB_z | exact isB_o | exact iI_in' (by assumption) (by omega) (by omega) | exact cat_int _ | exact cat_ref _ | exact cat_null | decide) only [↓x_90_110, ↓x_90_111, ↓x_90_112, ↓x_90_115, ↓x_90_116, ↓x_90_119, ↓x_90_120, ↓x_90_123, ↓x_90_124, ↓x_90_127, up1_same, up1_ne, up1_up1, us_0, us_1, us_2, us_3, us_4, us_5, us_6, us_7, us_8, us_9, us_10, us_11, rw_zero, rw_succ, Option.toList_some, Option.toList_none, List.cons_append, List.nil_append, cat_int, cat_ref, cat_null, iI_add, iI_sub, iI_mul, iI_neg, List.length_cons, List.length_nil, ↓reduceIte, va_rf_some, Int.reduceToNat, md_0, md_1, md_2, md_3, md_4, md_5, md_6, md_7, md_8, md_9, md_10, md_11, md_12, md_13, md_14, md_15, md_16, md_17, md_18, md_19, md_20, md_21, md_22, md_23, md_24, md_25, md_26, md_27, md_28, md_29, md_30, md_31, mu_0, mu_3, mu_7, mu_9, mu_12, mu_13, mu_14, mu_15, mu_16, mu_17, mu_18, mu_23, mu_24, mu_26, mu_27, mu_28, mu_29, i10, iI_eq, iI_lt, iI_cl, if_true, if_false, and_self, tk2, c5, k_takes_no hK' k17]
                exact rt_bad3 hK' hR hb01 hfr hA (hF p2 (by omega) hz)
            · have hafN : afN D n base (kk + 1) = (-1, D) := by
                unfold afN
                rw [if_pos (by rw [hv1] at c3; omega)]
              rw [hafN, if_pos rfl] at hfp1
              have hin : Ev (d + 4) 90 71 [.ref 62, .int (iI b), a2] [] (t, up1 V 62 (mdR g1), A, P) Q = Ev (d + 4) 90 105 [.ref 62, .int (iI b), a2] [.ref 62] (t, up1 V 62 (mdR g1), A, P) Q := by
                rcases hR1 with ⟨r1, r2, r3, r4⟩ | ⟨r1, r2, r3, r4⟩
                · subst r1
                  subst r3
                  simp (disch := first | assumption | omega | exact isB_z | exact isB_o | exact iI_in' (by assumption) (by omega) (by omega) | exact cat_int _ | exact cat_ref _ | exact cat_null | decide) only [↓x_90_71, ↓x_90_72, ↓x_90_73, ↓x_90_76, ↓x_90_77, ↓x_90_80, ↓x_90_81, ↓x_90_84, ↓x_90_85, ↓x_90_86, ↓x_90_89, ↓x_90_91, ↓x_90_94, ↓x_90_95, ↓x_90_98, ↓x_90_101, ↓x_90_102, up1_same, up1_ne, up1_up1, us_0, us_1, us_2, us_3, us_4, us_5, us_6, us_7, us_8, us_9, us_10, us_11, rw_zero, rw_succ, Option.toList_some, Option.toList_none, List.cons_append, List.nil_append, cat_int, cat_ref, cat_null, iI_add, iI_sub, iI_mul, iI_neg, List.length_cons, List.length_nil, ↓reduceIte, va_rf_some, Int.reduceToNat, md_0, md_1, md_2, md_3, md_4, md_5, md_6, md_7, md_8, md_9, md_10, md_11, md_12, md_13, md_14, md_15, md_16, md_17, md_18, md_19, md_20, md_21, md_22, md_23, md_24, md_25, md_26, md_27, md_28, md_29, md_30, md_31, mu_0, mu_3, mu_7, mu_9, mu_12, mu_13, mu_14, mu_15, mu_16, mu_17, mu_18, mu_23, mu_24, mu_26, mu_27, mu_28, mu_29, i10, iI_eq, iI_lt, iI_cl, if_true, if_false, and_self, tk1, c2, k_in, c3]
                · subst r1
                  subst r3
                  simp (disch := first | assumption | omega | exact isB_z | exact isB_o | exact iI_in' (by assumption) (by omega) (by omega) | exact cat_int _ | exact cat_ref _ | exact cat_null | decide) only [↓x_90_71, ↓x_90_72, ↓x_90_73, ↓x_90_76, ↓x_90_77, ↓x_90_80, ↓x_90_81, ↓x_90_84, ↓x_90_85, ↓x_90_86, ↓x_90_89, ↓x_90_91, ↓x_90_94, ↓x_90_95, ↓x_90_98, ↓x_90_101, ↓x_90_102, up1_same, up1_ne, up1_up1, us_0, us_1, us_2, us_3, us_4, us_5, us_6, us_7, us_8, us_9, us_10, us_11, rw_zero, rw_succ, Option.toList_some, Option.toList_none, List.cons_append, List.nil_append, cat_int, cat_ref, cat_null, iI_add, iI_sub, iI_mul, iI_neg, List.length_cons, List.length_nil, ↓reduceIte, va_rf_some, Int.reduceToNat, md_0, md_1, md_2, md_3, md_4, md_5, md_6, md_7, md_8, md_9, md_10, md_11, md_12, md_13, md_14, md_15, md_16, md_17, md_18, md_19, md_20, md_21, md_22, md_23, md_24, md_25, md_26, md_27, md_28, md_29, md_30, md_31, mu_0, mu_3, mu_7, mu_9, mu_12, mu_13, mu_14, mu_15, mu_16, mu_17, mu_18, mu_23, mu_24, mu_26, mu_27, mu_28, mu_29, i10, iI_eq, iI_lt, iI_cl, if_true, if_false, and_self, tk1, c2, k_in, c3]
              rw [hin]
              exact hbad2 (by rw [hfp1])
          · have hnu : nuA T p1 (tkE T p1) = -1 := Decidable.byContradiction fun q => c2 ((tkT_2 cp1).2 q)
            have hafN : afN D (nuA T p1 (tkE T p1)) base (kk + 1) = (-1, D) := by
              unfold afN
              rw [if_pos (by omega)]
            rw [hafN, if_pos rfl] at hfp1
            simp (disch := first | assumption | omega | exact isB_z | exact isB_o | exact iI_in' (by assumption) (by omega) (by omega) | exact cat_int _ | exact cat_ref _ | exact cat_null | decide) only [↓x_90_71, ↓x_90_72, ↓x_90_73, ↓x_90_76, ↓x_90_77, up1_same, up1_ne, up1_up1, us_0, us_1, us_2, us_3, us_4, us_5, us_6, us_7, us_8, us_9, us_10, us_11, rw_zero, rw_succ, Option.toList_some, Option.toList_none, List.cons_append, List.nil_append, cat_int, cat_ref, cat_null, iI_add, iI_sub, iI_mul, iI_neg, List.length_cons, List.length_nil, ↓reduceIte, va_rf_some, Int.reduceToNat, md_0, md_1, md_2, md_3, md_4, md_5, md_6, md_7, md_8, md_9, md_10, md_11, md_12, md_13, md_14, md_15, md_16, md_17, md_18, md_19, md_20, md_21, md_22, md_23, md_24, md_25, md_26, md_27, md_28, md_29, md_30, md_31, mu_0, mu_3, mu_7, mu_9, mu_12, mu_13, mu_14, mu_15, mu_16, mu_17, mu_18, mu_23, mu_24, mu_26, mu_27, mu_28, mu_29, i10, iI_eq, iI_lt, iI_cl, if_true, if_false, and_self, tk1, c2]
            exact hbad2 (by rw [hfp1])
        · have c2 : ¬ tkT T p1 = 2 := fun q => by unfold tkT at q; rw [if_pos (by omega)] at q; omega
          have hz : E.1 = p1 := by
            rw [hfp, fpG_end (by omega), if_neg (by omega)]
            simp only
            omega
          simp (disch := first | assumption | omega | exact isB_z | exact isB_o | exact iI_in' (by assumption) (by omega) (by omega) | exact cat_int _ | exact cat_ref _ | exact cat_null | decide) only [↓x_90_71, ↓x_90_72, ↓x_90_73, ↓x_90_76, ↓x_90_77, up1_same, up1_ne, up1_up1, us_0, us_1, us_2, us_3, us_4, us_5, us_6, us_7, us_8, us_9, us_10, us_11, rw_zero, rw_succ, Option.toList_some, Option.toList_none, List.cons_append, List.nil_append, cat_int, cat_ref, cat_null, iI_add, iI_sub, iI_mul, iI_neg, List.length_cons, List.length_nil, ↓reduceIte, va_rf_some, Int.reduceToNat, md_0, md_1, md_2, md_3, md_4, md_5, md_6, md_7, md_8, md_9, md_10, md_11, md_12, md_13, md_14, md_15, md_16, md_17, md_18, md_19, md_20, md_21, md_22, md_23, md_24, md_25, md_26, md_27, md_28, md_29, md_30, md_31, mu_0, mu_3, mu_7, mu_9, mu_12, mu_13, mu_14, mu_15, mu_16, mu_17, mu_18, mu_23, mu_24, mu_26, mu_27, mu_28, mu_29, i10, iI_eq, iI_lt, iI_cl, if_true, if_false, and_self, tk1, c2]
          exact hbad2 hz
      · have hnc : ¬ (T.getD p 0 = 100 ∨ T.getD p 0 = 107) := fun q => c1 ((tkT_1 cp).2 q)
        have haf : afT T 0 p (tkE T p) D = (-1, D) := by unfold afT; rw [if_pos rfl, if_neg (fun q => hnc (Or.inl q)), if_neg (fun q => hnc (Or.inr q))]
        rw [haf, if_pos rfl] at hfp
        exact hbad c1 (by rw [hfp])
    · have hz : tkT T p = 0 := by unfold tkT; rw [if_pos (by omega)]
      rw [fpG_end (by omega)] at hE
      by_cases cD : D.length = 0
      · have e : (D.length : Int) = 0 := by omega
        rw [if_neg (by omega)] at hE
        simp (disch := first | assumption | omega | exact isB_z | exact isB_o | exact iI_in' (by assumption) (by omega) (by omega) | exact cat_int _ | exact cat_ref _ | exact cat_null | decide) only [↓x_90_21, ↓x_90_24, ↓x_90_26, ↓x_90_29, ↓x_90_30, ↓x_90_33, ↓x_90_36, ↓x_90_37, ↓x_90_40, up1_same, up1_ne, up1_up1, us_0, us_1, us_2, us_3, us_4, us_5, us_6, us_7, us_8, us_9, us_10, us_11, rw_zero, rw_succ, Option.toList_some, Option.toList_none, List.cons_append, List.nil_append, cat_int, cat_ref, cat_null, iI_add, iI_sub, iI_mul, iI_neg, List.length_cons, List.length_nil, ↓reduceIte, va_rf_some, Int.reduceToNat, md_0, md_1, md_2, md_3, md_4, md_5, md_6, md_7, md_8, md_9, md_10, md_11, md_12, md_13, md_14, md_15, md_16, md_17, md_18, md_19, md_20, md_21, md_22, md_23, md_24, md_25, md_26, md_27, md_28, md_29, md_30, md_31, mu_0, mu_3, mu_7, mu_9, mu_12, mu_13, mu_14, mu_15, mu_16, mu_17, mu_18, mu_23, mu_24, mu_26, mu_27, mu_28, mu_29, i10, iI_eq, iI_lt, iI_cl, if_true, if_false, and_self, h17, tk, hz, h9, e]
        exact hbad (by omega) (by rw [← hE]; simp only; omega)
      · have e : ¬ (D.length : Int) = 0 := by omega
        rw [if_pos (by omega)] at hE
        simp (disch := first | assumption | omega | exact isB_z | exact isB_o | exact iI_in' (by assumption) (by omega) (by omega) | exact cat_int _ | exact cat_ref _ | exact cat_null | decide) only [↓x_90_21, ↓x_90_24, ↓x_90_26, ↓x_90_29, ↓x_90_30, ↓x_90_33, ↓x_90_36, ↓x_90_37, ↓x_90_40, ↓x_90_162, up1_same, up1_ne, up1_up1, us_0, us_1, us_2, us_3, us_4, us_5, us_6, us_7, us_8, us_9, us_10, us_11, rw_zero, rw_succ, Option.toList_some, Option.toList_none, List.cons_append, List.nil_append, cat_int, cat_ref, cat_null, iI_add, iI_sub, iI_mul, iI_neg, List.length_cons, List.length_nil, ↓reduceIte, va_rf_some, Int.reduceToNat, md_0, md_1, md_2, md_3, md_4, md_5, md_6, md_7, md_8, md_9, md_10, md_11, md_12, md_13, md_14, md_15, md_16, md_17, md_18, md_19, md_20, md_21, md_22, md_23, md_24, md_25, md_26, md_27, md_28, md_29, md_30, md_31, mu_0, mu_3, mu_7, mu_9, mu_12, mu_13, mu_14, mu_15, mu_16, mu_17, mu_18, mu_23, mu_24, mu_26, mu_27, mu_28, mu_29, i10, iI_eq, iI_lt, iI_cl, if_true, if_false, and_self, h17, tk, hz, h9, e]
        refine hQ g A hg hA (by rw [← hE, if_pos rfl]; exact h17) (fun _ => ?_)
        rw [← hE]
        exact ⟨h9, hD⟩
end
