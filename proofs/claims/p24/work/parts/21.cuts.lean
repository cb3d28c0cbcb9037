/-! CUTS -/
def ctF (X : aW) (k : Int) : Nat → Int → Int → Int
  | 0, _, fd => if k = -1 then fd else -9
  | n + 1, w, fd => if 0 < rm X (w / 2) ∧ rFi X (w / 2) (w % 2) = -9 then (if fd = k then w else ctF X k n (w + 1) (fd + 1)) else ctF X k n (w + 1) fd
def aCuts (X : aW) (k : Int) : Int := if k < -1 then -1 else ctF X k 12 0 0
section
variable {d : Nat} {t : mL} {V : Nat → Nat → Value} {A : Nat → Nat → Int32} {P : Nat → Nat → Option Nat} {μ : mM} {Q : Option Value → mM → Prop} {S : aS} {e : Nat → Nat}
set_option maxHeartbeats 400000 in
theorem cuts_loop {k E : Int} {V0 : Nat → Nat → Value} {A0 : Nat → Nat → Int32} (hK : exK t) (hT : tabs t A0) (h : RX V0 A0 P S e) (h1 : -1 ≤ k ∧ k < 2147483648) (hQ : ∀ (V' : Nat → Nat → Value) (A' : Nat → Nat → Int32), fq V0 V' A0 A' → Q (some (.int (iI E))) (t, V', A', P)) :
    ∀ (n : Nat) (w fd : Int) (V : Nat → Nat → Value) (A : Nat → Nat → Int32), w + n = 12 → 0 ≤ fd → fd ≤ w → fq V0 V A0 A → ctF S.X k n w fd = E → Ev (d + 7) 54 11 [.ref 3, .int (iI k), .int (iI fd), .int (iI w)] [] (t, V, A, P) Q := by
  have k0 := hK.1
  have kR := hK.2.2.2.2.2.2.2.1
  have k13 := kR.1
  have hX := h.wo
  intro n
  induction n with
  | zero =>
    intro w fd V A hn f0 f1 hq hE
    rw [x_54_11]
    have e1 : ¬ w < 12 := by omega
    simp only [ctF] at hE
    simp (disch := first | assumption | omega | exact isB_z | exact isB_o | exact iI_in' (by assumption) (by omega) (by omega) | exact cat_int _ | exact cat_ref _ | exact cat_null | decide) only [↓x_54_12, ↓x_54_14, ↓x_54_82, ↓x_54_83, ↓x_54_84, ↓x_54_87, ↓x_54_88, ↓x_54_91, ↓x_54_93, up1_same, up1_ne, up1_up1, us_0, us_1, us_2, us_3, us_4, us_5, us_6, us_7, us_8, us_9, us_10, us_11, rw_zero, rw_succ, Option.toList_some, Option.toList_none, List.cons_append, List.nil_append, cat_int, cat_ref, cat_null, iI_add, iI_sub, iI_mul, iI_neg, List.length_cons, List.length_nil, ↓reduceIte, va_rf_some, exR, wiR, wkW, wkR, orR, rdR, iI_lt, iI_eq, e1, if_false]
    by_cases c : k = -1
    · simp only [c, if_true] at hE ⊢; rw [hE]; exact hQ V A hq
    · simp only [c, if_false] at hE ⊢; rw [hE]; exact hQ V A hq
  | succ n ih =>
    intro w fd V A hn f0 f1 hq hE
    rw [x_54_11]
    have e1 : w < 12 := by omega
    have em : w - w / 2 * 2 = w % 2 := by omega
    have hr := h.fq hq
    obtain ⟨it, hx⟩ := hr.ob
    simp only [ctF] at hE
    simp (disch := first | assumption | omega | exact isB_z | exact isB_o | exact iI_in' (by assumption) (by omega) (by omega) | exact cat_int _ | exact cat_ref _ | exact cat_null | decide) only [↓x_54_12, ↓x_54_14, ↓x_54_17, ↓x_54_18, ↓x_54_21, ↓x_54_22, ↓x_54_25, ↓x_54_26, ↓x_54_27, ↓x_54_28, ↓x_54_29, ↓x_54_30, up1_same, up1_ne, up1_up1, us_0, us_1, us_2, us_3, us_4, us_5, us_6, us_7, us_8, us_9, us_10, us_11, rw_zero, rw_succ, Option.toList_some, Option.toList_none, List.cons_append, List.nil_append, cat_int, cat_ref, cat_null, iI_add, iI_sub, iI_mul, iI_neg, List.length_cons, List.length_nil, ↓reduceIte, va_rf_some, exR, wiR, wkW, wkR, orR, rdR, hx, iI_lt, iI_div, em, e1, if_true]
    simp (disch := first | assumption | omega | exact isB_z | exact isB_o | exact iI_in' (by assumption) (by omega) (by omega) | exact cat_int _ | exact cat_ref _ | exact cat_null | decide) only [↓x_54_31, up1_same, up1_ne, up1_up1, us_0, us_1, us_2, us_3, us_4, us_5, us_6, us_7, us_8, us_9, us_10, us_11, rw_zero, rw_succ, Option.toList_some, Option.toList_none, List.cons_append, List.nil_append, cat_int, cat_ref, cat_null, iI_add, iI_sub, iI_mul, iI_neg, List.length_cons, List.length_nil, ↓reduceIte, va_rf_some, exR, wiR, wkW, wkR, orR, rdR]
    rw [k_sumOf (by omega)]
    simp (disch := first | assumption | omega | exact isB_z | exact isB_o | exact iI_in' (by assumption) (by omega) (by omega) | exact cat_int _ | exact cat_ref _ | exact cat_null | decide) only [↓x_54_34, up1_same, up1_ne, up1_up1, us_0, us_1, us_2, us_3, us_4, us_5, us_6, us_7, us_8, us_9, us_10, us_11, rw_zero, rw_succ, Option.toList_some, Option.toList_none, List.cons_append, List.nil_append, cat_int, cat_ref, cat_null, iI_add, iI_sub, iI_mul, iI_neg, List.length_cons, List.length_nil, ↓reduceIte, va_rf_some, exR, wiR, wkW, wkR, orR, rdR]
    refine k_loadX hK hr (by omega) (fun V' A' q1 q2 q3 => ?_)
    have hx' : V' 3 = exR S.T.length it S.U.length := by rw [q3.1 3 (by omega)]; exact hx
    simp (disch := first | assumption | omega | exact isB_z | exact isB_o | exact iI_in' (by assumption) (by omega) (by omega) | exact cat_int _ | exact cat_ref _ | exact cat_null | decide) only [↓x_54_37, ↓x_54_38, ↓x_54_41, up1_same, up1_ne, up1_up1, us_0, us_1, us_2, us_3, us_4, us_5, us_6, us_7, us_8, us_9, us_10, us_11, rw_zero, rw_succ, Option.toList_some, Option.toList_none, List.cons_append, List.nil_append, cat_int, cat_ref, cat_null, iI_add, iI_sub, iI_mul, iI_neg, List.length_cons, List.length_nil, ↓reduceIte, va_rf_some, exR, wiR, wkW, wkR, orR, rdR, hx']
    refine k_checkX hK (q3.tabs (hq.tabs hT)) hX q1 q2 q3.2.2 (fun V2 r1 r2 => ?_)
    obtain ⟨bl, lo, v1, v2, v3⟩ := r1
    have hx2 : V2 3 = exR S.T.length it S.U.length := by rw [r2.1 3 (by omega)]; exact hx'
    have q4 := hq.tr (q3.tr r2)
    have hb := rm_b (f := w / 2) hX
    have hfi := rFi_b (f := w / 2) (w % 2) hX
    simp (disch := first | assumption | omega | exact isB_z | exact isB_o | exact iI_in' (by assumption) (by omega) (by omega) | exact cat_int _ | exact cat_ref _ | exact cat_null | decide) only [↓x_54_44, ↓x_54_45, ↓x_54_48, ↓x_54_51, up1_same, up1_ne, up1_up1, us_0, us_1, us_2, us_3, us_4, us_5, us_6, us_7, us_8, us_9, us_10, us_11, rw_zero, rw_succ, Option.toList_some, Option.toList_none, List.cons_append, List.nil_append, cat_int, cat_ref, cat_null, iI_add, iI_sub, iI_mul, iI_neg, List.length_cons, List.length_nil, ↓reduceIte, va_rf_some, exR, wiR, wkW, wkR, orR, rdR, hx2, v1, iI_lt, iI_le, iI_n0]
    by_cases c : 0 < rm S.X (w / 2)
    · have c' : ¬ rm S.X (w / 2) ≤ 0 := by omega
      simp (disch := first | assumption | omega | exact isB_z | exact isB_o | exact iI_in' (by assumption) (by omega) (by omega) | exact cat_int _ | exact cat_ref _ | exact cat_null | decide) only [c, c', true_and, if_true, if_false, ↓x_54_54, ↓x_54_55, ↓x_54_58, ↓x_54_61, ↓x_54_63, up1_same, up1_ne, up1_up1, us_0, us_1, us_2, us_3, us_4, us_5, us_6, us_7, us_8, us_9, us_10, us_11, rw_zero, rw_succ, Option.toList_some, Option.toList_none, List.cons_append, List.nil_append, cat_int, cat_ref, cat_null, iI_add, iI_sub, iI_mul, iI_neg, List.length_cons, List.length_nil, ↓reduceIte, va_rf_some, exR, wiR, wkW, wkR, orR, rdR, hx2, v1, iI_eq] at hE ⊢
      by_cases g : rFi S.X (w / 2) (w % 2) = -9
      · rw [if_pos g] at hE
        rw [if_pos g]
        simp (disch := first | assumption | omega | exact isB_z | exact isB_o | exact iI_in' (by assumption) (by omega) (by omega) | exact cat_int _ | exact cat_ref _ | exact cat_null | decide) only [↓x_54_66, ↓x_54_67, ↓x_54_68, up1_same, up1_ne, up1_up1, us_0, us_1, us_2, us_3, us_4, us_5, us_6, us_7, us_8, us_9, us_10, us_11, rw_zero, rw_succ, Option.toList_some, Option.toList_none, List.cons_append, List.nil_append, cat_int, cat_ref, cat_null, iI_add, iI_sub, iI_mul, iI_neg, List.length_cons, List.length_nil, ↓reduceIte, va_rf_some, exR, wiR, wkW, wkR, orR, rdR, iI_eq]
        by_cases g2 : fd = k
        · rw [if_pos g2] at hE ⊢
          simp (disch := first | assumption | omega | exact isB_z | exact isB_o | exact iI_in' (by assumption) (by omega) (by omega) | exact cat_int _ | exact cat_ref _ | exact cat_null | decide) only [↓x_54_71, ↓x_54_72, up1_same, up1_ne, up1_up1, us_0, us_1, us_2, us_3, us_4, us_5, us_6, us_7, us_8, us_9, us_10, us_11, rw_zero, rw_succ, Option.toList_some, Option.toList_none, List.cons_append, List.nil_append, cat_int, cat_ref, cat_null, iI_add, iI_sub, iI_mul, iI_neg, List.length_cons, List.length_nil, ↓reduceIte, va_rf_some, exR, wiR, wkW, wkR, orR, rdR, hE]
          exact hQ _ _ q4
        · rw [if_neg g2] at hE ⊢
          simp (disch := first | assumption | omega | exact isB_z | exact isB_o | exact iI_in' (by assumption) (by omega) (by omega) | exact cat_int _ | exact cat_ref _ | exact cat_null | decide) only [↓x_54_73, ↓x_54_76, ↓x_54_79, up1_same, up1_ne, up1_up1, us_0, us_1, us_2, us_3, us_4, us_5, us_6, us_7, us_8, us_9, us_10, us_11, rw_zero, rw_succ, Option.toList_some, Option.toList_none, List.cons_append, List.nil_append, cat_int, cat_ref, cat_null, iI_add, iI_sub, iI_mul, iI_neg, List.length_cons, List.length_nil, ↓reduceIte, va_rf_some, exR, wiR, wkW, wkR, orR, rdR]
          exact ih (w + 1) (fd + 1) V2 A' (by omega) (by omega) (by omega) q4 hE
      · rw [if_neg g] at hE
        rw [if_neg g]
        simp (disch := first | assumption | omega | exact isB_z | exact isB_o | exact iI_in' (by assumption) (by omega) (by omega) | exact cat_int _ | exact cat_ref _ | exact cat_null | decide) only [↓x_54_76, ↓x_54_79, up1_same, up1_ne, up1_up1, us_0, us_1, us_2, us_3, us_4, us_5, us_6, us_7, us_8, us_9, us_10, us_11, rw_zero, rw_succ, Option.toList_some, Option.toList_none, List.cons_append, List.nil_append, cat_int, cat_ref, cat_null, iI_add, iI_sub, iI_mul, iI_neg, List.length_cons, List.length_nil, ↓reduceIte, va_rf_some, exR, wiR, wkW, wkR, orR, rdR]
        exact ih (w + 1) fd V2 A' (by omega) (by omega) (by omega) q4 hE
    · have c' : rm S.X (w / 2) ≤ 0 := by omega
      simp (disch := first | assumption | omega | exact isB_z | exact isB_o | exact iI_in' (by assumption) (by omega) (by omega) | exact cat_int _ | exact cat_ref _ | exact cat_null | decide) only [c, c', false_and, if_true, if_false, ↓x_54_76, ↓x_54_79, up1_same, up1_ne, up1_up1, us_0, us_1, us_2, us_3, us_4, us_5, us_6, us_7, us_8, us_9, us_10, us_11, rw_zero, rw_succ, Option.toList_some, Option.toList_none, List.cons_append, List.nil_append, cat_int, cat_ref, cat_null, iI_add, iI_sub, iI_mul, iI_neg, List.length_cons, List.length_nil, ↓reduceIte, va_rf_some, exR, wiR, wkW, wkR, orR, rdR] at hE ⊢
      exact ih (w + 1) fd V2 A' (by omega) (by omega) (by omega) q4 hE
theorem k_cuts {k : Int} (hK : exK t) (hT : tabs t A) (h : RX V A P S e) (h1 : -2147483648 ≤ k ∧ k < 2147483648) (hQ : ∀ (V' : Nat → Nat → Value) (A' : Nat → Nat → Int32), fq V V' A A' → Q (some (.int (iI (aCuts S.X k)))) (t, V', A', P)) : Call (d + 8) 54 [.ref 3, .int (iI k)] (t, V, A, P) Q := by
  simp (disch := first | assumption | omega | exact isB_z | exact isB_o | exact iI_in' (by assumption) (by omega) (by omega) | exact cat_int _ | exact cat_ref _ | exact cat_null | decide) only [c_54, ↓x_54_0, ↓x_54_1, ↓x_54_2, ↓x_54_5, ↓x_54_6, up1_same, up1_ne, up1_up1, us_0, us_1, us_2, us_3, us_4, us_5, us_6, us_7, us_8, us_9, us_10, us_11, rw_zero, rw_succ, Option.toList_some, Option.toList_none, List.cons_append, List.nil_append, cat_int, cat_ref, cat_null, iI_add, iI_sub, iI_mul, iI_neg, List.length_cons, List.length_nil, ↓reduceIte, va_rf_some, exR, wiR, wkW, wkR, orR, rdR, iI_lt]
  by_cases c : k < -1
  · have : aCuts S.X k = -1 := by unfold aCuts; rw [if_pos c]
    rw [this] at hQ
    simp (disch := first | assumption | omega | exact isB_z | exact isB_o | exact iI_in' (by assumption) (by omega) (by omega) | exact cat_int _ | exact cat_ref _ | exact cat_null | decide) only [c, if_true]
    exact hQ V A (fq_rf h.sc)
  · have : aCuts S.X k = ctF S.X k 12 0 0 := by unfold aCuts; rw [if_neg c]
    rw [this] at hQ
    simp (disch := first | assumption | omega | exact isB_z | exact isB_o | exact iI_in' (by assumption) (by omega) (by omega) | exact cat_int _ | exact cat_ref _ | exact cat_null | decide) only [c, if_false, ↓x_54_7, ↓x_54_8, ↓x_54_9, ↓x_54_10, up1_same, up1_ne, up1_up1, us_0, us_1, us_2, us_3, us_4, us_5, us_6, us_7, us_8, us_9, us_10, us_11, rw_zero, rw_succ, Option.toList_some, Option.toList_none, List.cons_append, List.nil_append, cat_int, cat_ref, cat_null, iI_add, iI_sub, iI_mul, iI_neg, List.length_cons, List.length_nil, ↓reduceIte, va_rf_some, exR, wiR, wkW, wkR, orR, rdR]
    exact cuts_loop hK hT h (by omega) hQ 12 0 0 V A (by omega) (by omega) (by omega) (fq_rf h.sc) rfl
end
