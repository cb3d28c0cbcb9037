/-! THE CALLS THAT CHANGE THE STATE -/
def aSend (S : aS) (k : Int) : Int × aS := if 32 ≤ S.X.1.length then (-3, S) else (fD k (sm S.X.1), aS.mk (sX S.X k) (pu S.U S.X) S.I S.T)
def aSends (S : aS) (k : Int) : Int × aS := if k < 0 ∨ 31 ≤ k then (-1, S) else aSend S k
def aMarks (S : aS) (k : Int) : Int × aS := if k < 0 ∨ 3 ≤ k then (-1, S) else aSend S (31 + k)
def tX (X : aW) (b : Int) : aW := (X.1, X.2.set (b / 6).toNat (tn (X.2.getD (b / 6).toNat 0) (5 - b % 6).toNat))
def aFlips (S : aS) (b : Int) : Int × aS := if 0 ≤ b ∧ b < S.X.1.length * 6 then (btA (tX S.X b).2 b, aS.mk (tX S.X b) (pu S.U S.X) S.I S.T) else (-1, S)
def aClears (S : aS) : Int × aS := if S.X.1.length = 0 then (-2, S) else (S.X.1.length, aS.mk ([], []) (pu S.U S.X) S.I S.T)
def aUndo (S : aS) : Int × aS := if S.U.length = 0 then (-2, S) else ((S.U.length : Int) - 1, aS.mk (S.U.getD (S.U.length - 1) ([], [])) (S.U.take (S.U.length - 1)) S.I S.T)
def aKeep (S : aS) (i : Int) : Int × aS := if 0 ≤ i ∧ i < 2 then (S.X.1.length, aS.mk S.X S.U (fun j => if j = i.toNat then some S.X else S.I j) S.T) else (-1, S)
def aBack (S : aS) (i : Int) : Int × aS := if 0 ≤ i ∧ i < 2 then (match S.I i.toNat with | none => (-2, S) | some Y => (Y.1.length, aS.mk Y [] S.I S.T)) else (-1, S)
def aType (S : aS) (c : Int) : Int × aS := if c < 0 ∨ 255 < c then (-1, S) else if 120 ≤ S.T.length then (-3, S) else ((S.T.length : Int) + 1, aS.mk S.X S.U S.I (S.T ++ [c]))
def aClear (S : aS) : Int × aS := (S.T.length, aS.mk S.X S.U S.I [])
section
variable {d : Nat} {t : mL} {V : Nat → Nat → Value} {A : Nat → Nat → Int32} {P : Nat → Nat → Option Nat} {μ : mM} {Q : Option Value → mM → Prop} {S : aS} {e : Nat → Nat}
theorem fr.rf : fr V V A A := ⟨fun _ _ => rfl, fun _ _ => rfl⟩
def hqT (t : mL) (V : Nat → Nat → Value) (A : Nat → Nat → Int32) (Q : Option Value → mM → Prop) (r : Int × aS) : Prop := ∀ (V' : Nat → Nat → Value) (A' : Nat → Nat → Int32) (P' : Nat → Nat → Option Nat) (e' : Nat → Nat), RX V' A' P' r.2 e' → fr V V' A A' → Q (some (.int (iI r.1))) (t, V', A', P')
theorem k_sendOne {k : Int} (hK : exK t) (hT : tabs t A) (h : RX V A P S e) (h0 : 0 ≤ k) (h1 : k < 34) (hQ : hqT t V A Q (aSend S k)) : Call (d + 5) 61 [.ref 3, .int (iI k)] (t, V, A, P) Q := by
  obtain ⟨it, hx⟩ := h.ob
  have k0 := hK.1
  have k4 := hK.2.1.1
  have hX := h.wo.1
  have hw := h.wi.1
  by_cases c : 32 ≤ S.X.1.length
  · have c' : ¬ (S.X.1.length : Int) < 32 := by omega
    unfold aSend at hQ
    rw [if_pos c] at hQ
    simp (disch := first | assumption | omega | exact isB_z | exact isB_o | exact iI_in' (by assumption) (by omega) (by omega) | exact cat_int _ | exact cat_ref _ | exact cat_null | decide) only [c_61, ↓x_61_0, ↓x_61_1, ↓x_61_4, ↓x_61_7, ↓x_61_9, ↓x_61_12, ↓x_61_14, up1_same, up1_ne, up1_up1, us_0, us_1, us_2, us_3, us_4, us_5, us_6, us_7, us_8, us_9, us_10, us_11, rw_zero, rw_succ, Option.toList_some, Option.toList_none, List.cons_append, List.nil_append, cat_int, cat_ref, cat_null, iI_add, iI_sub, iI_mul, iI_neg, List.length_cons, List.length_nil, ↓reduceIte, va_rf_some, exR, wiR, wkW, wkR, orR, rdR, hx, hw, iI_lt, c', if_false]
    exact hQ V A P e h fr.rf
  · have c' : (S.X.1.length : Int) < 32 := by omega
    unfold aSend at hQ
    rw [if_neg c] at hQ
    simp (disch := first | assumption | omega | exact isB_z | exact isB_o | exact iI_in' (by assumption) (by omega) (by omega) | exact cat_int _ | exact cat_ref _ | exact cat_null | decide) only [c_61, ↓x_61_0, ↓x_61_1, ↓x_61_4, ↓x_61_7, ↓x_61_9, up1_same, up1_ne, up1_up1, us_0, us_1, us_2, us_3, us_4, us_5, us_6, us_7, us_8, us_9, us_10, us_11, rw_zero, rw_succ, Option.toList_some, Option.toList_none, List.cons_append, List.nil_append, cat_int, cat_ref, cat_null, iI_add, iI_sub, iI_mul, iI_neg, List.length_cons, List.length_nil, ↓reduceIte, va_rf_some, exR, wiR, wkW, wkR, orR, rdR, hx, hw, iI_lt, c', if_true]
    simp (disch := first | assumption | omega | exact isB_z | exact isB_o | exact iI_in' (by assumption) (by omega) (by omega) | exact cat_int _ | exact cat_ref _ | exact cat_null | decide) only [↓x_61_15, ↓x_61_16, up1_same, up1_ne, up1_up1, us_0, us_1, us_2, us_3, us_4, us_5, us_6, us_7, us_8, us_9, us_10, us_11, rw_zero, rw_succ, Option.toList_some, Option.toList_none, List.cons_append, List.nil_append, cat_int, cat_ref, cat_null, iI_add, iI_sub, iI_mul, iI_neg, List.length_cons, List.length_nil, ↓reduceIte, va_rf_some, exR, wiR, wkW, wkR, orR, rdR]
    refine k_remember hK h (fun V1 A1 P1 e1 r1 r2 => ?_)
    obtain ⟨it1, hx1⟩ := r1.ob
    simp (disch := first | assumption | omega | exact isB_z | exact isB_o | exact iI_in' (by assumption) (by omega) (by omega) | exact cat_int _ | exact cat_ref _ | exact cat_null | decide) only [↓x_61_19, ↓x_61_20, ↓x_61_23, ↓x_61_24, up1_same, up1_ne, up1_up1, us_0, us_1, us_2, us_3, us_4, us_5, us_6, us_7, us_8, us_9, us_10, us_11, rw_zero, rw_succ, Option.toList_some, Option.toList_none, List.cons_append, List.nil_append, cat_int, cat_ref, cat_null, iI_add, iI_sub, iI_mul, iI_neg, List.length_cons, List.length_nil, ↓reduceIte, va_rf_some, exR, wiR, wkW, wkR, orR, rdR, hx1]
    rw [k_send (r2.tabs hT) hK.2.1 r1.wi r1.wo (by show S.X.1.length < 32; omega) h0 h1]
    simp (disch := first | assumption | omega | exact isB_z | exact isB_o | exact iI_in' (by assumption) (by omega) (by omega) | exact cat_int _ | exact cat_ref _ | exact cat_null | decide) only [↓x_61_27, up1_same, up1_ne, up1_up1, us_0, us_1, us_2, us_3, us_4, us_5, us_6, us_7, us_8, us_9, us_10, us_11, rw_zero, rw_succ, Option.toList_some, Option.toList_none, List.cons_append, List.nil_append, cat_int, cat_ref, cat_null, iI_add, iI_sub, iI_mul, iI_neg, List.length_cons, List.length_nil, ↓reduceIte, va_rf_some, exR, wiR, wkW, wkR, orR, rdR]
    refine hQ _ _ P1 e1 (r1.wire (wiH_send r1.wi r1.wo) (wf_send r1.wo (by show S.X.1.length < 32; omega) h0 h1) (fun a ha => up1_ne ha) (fun a ha => ?_)) (r2.tr ⟨fun a ha => up1_ne (by omega), fun a ha => ?_⟩)
    · unfold sndA; rw [up1_ne (by omega), up1_ne (by omega), up1_ne (by omega)]
    · unfold sndA; rw [up1_ne (by omega), up1_ne (by omega), up1_ne (by omega)]
theorem k_sends {k : Int} (hK : exK t) (hT : tabs t A) (h : RX V A P S e) (h1 : -2147483648 ≤ k ∧ k < 2147483648) (hQ : hqT t V A Q (aSends S k)) : Call (d + 6) 44 [.ref 3, .int (iI k)] (t, V, A, P) Q := by
  have k0 := hK.1
  unfold aSends at hQ
  simp (disch := first | assumption | omega | exact isB_z | exact isB_o | exact iI_in' (by assumption) (by omega) (by omega) | exact cat_int _ | exact cat_ref _ | exact cat_null | decide) only [c_44, ↓x_44_0, ↓x_44_1, ↓x_44_4, ↓x_44_5, ↓x_44_7, up1_same, up1_ne, up1_up1, us_0, us_1, us_2, us_3, us_4, us_5, us_6, us_7, us_8, us_9, us_10, us_11, rw_zero, rw_succ, Option.toList_some, Option.toList_none, List.cons_append, List.nil_append, cat_int, cat_ref, cat_null, iI_add, iI_sub, iI_mul, iI_neg, List.length_cons, List.length_nil, ↓reduceIte, va_rf_some, exR, wiR, wkW, wkR, orR, rdR, iI_lt, iI_n0]
  by_cases c : k < 0
  · rw [if_pos (Or.inl c)] at hQ
    simp (disch := first | assumption | omega | exact isB_z | exact isB_o | exact iI_in' (by assumption) (by omega) (by omega) | exact cat_int _ | exact cat_ref _ | exact cat_null | decide) only [c, if_true, ↓x_44_10, ↓x_44_11, up1_same, up1_ne, up1_up1, us_0, us_1, us_2, us_3, us_4, us_5, us_6, us_7, us_8, us_9, us_10, us_11, rw_zero, rw_succ, Option.toList_some, Option.toList_none, List.cons_append, List.nil_append, cat_int, cat_ref, cat_null, iI_add, iI_sub, iI_mul, iI_neg, List.length_cons, List.length_nil, ↓reduceIte, va_rf_some, exR, wiR, wkW, wkR, orR, rdR]
    exact hQ V A P e h fr.rf
  · by_cases c2 : k < 31
    · rw [if_neg (by omega)] at hQ
      simp (disch := first | assumption | omega | exact isB_z | exact isB_o | exact iI_in' (by assumption) (by omega) (by omega) | exact cat_int _ | exact cat_ref _ | exact cat_null | decide) only [c, c2, if_true, if_false, ↓x_44_12, ↓x_44_13, ↓x_44_14, up1_same, up1_ne, up1_up1, us_0, us_1, us_2, us_3, us_4, us_5, us_6, us_7, us_8, us_9, us_10, us_11, rw_zero, rw_succ, Option.toList_some, Option.toList_none, List.cons_append, List.nil_append, cat_int, cat_ref, cat_null, iI_add, iI_sub, iI_mul, iI_neg, List.length_cons, List.length_nil, ↓reduceIte, va_rf_some, exR, wiR, wkW, wkR, orR, rdR]
      refine k_sendOne (k := k) hK hT h (by omega) (by omega) (fun V' A' P' e' q1 q2 => ?_)
      simp (disch := first | assumption | omega | exact isB_z | exact isB_o | exact iI_in' (by assumption) (by omega) (by omega) | exact cat_int _ | exact cat_ref _ | exact cat_null | decide) only [↓x_44_17, up1_same, up1_ne, up1_up1, us_0, us_1, us_2, us_3, us_4, us_5, us_6, us_7, us_8, us_9, us_10, us_11, rw_zero, rw_succ, Option.toList_some, Option.toList_none, List.cons_append, List.nil_append, cat_int, cat_ref, cat_null, iI_add, iI_sub, iI_mul, iI_neg, List.length_cons, List.length_nil, ↓reduceIte, va_rf_some, exR, wiR, wkW, wkR, orR, rdR]
      exact hQ V' A' P' e' q1 q2
    · rw [if_pos (by omega)] at hQ
      simp (disch := first | assumption | omega | exact isB_z | exact isB_o | exact iI_in' (by assumption) (by omega) (by omega) | exact cat_int _ | exact cat_ref _ | exact cat_null | decide) only [c, c2, if_false, ↓x_44_10, ↓x_44_11, up1_same, up1_ne, up1_up1, us_0, us_1, us_2, us_3, us_4, us_5, us_6, us_7, us_8, us_9, us_10, us_11, rw_zero, rw_succ, Option.toList_some, Option.toList_none, List.cons_append, List.nil_append, cat_int, cat_ref, cat_null, iI_add, iI_sub, iI_mul, iI_neg, List.length_cons, List.length_nil, ↓reduceIte, va_rf_some, exR, wiR, wkW, wkR, orR, rdR]
      exact hQ V A P e h fr.rf
theorem k_marks {k : Int} (hK : exK t) (hT : tabs t A) (h : RX V A P S e) (h1 : -2147483648 ≤ k ∧ k < 2147483648) (hQ : hqT t V A Q (aMarks S k)) : Call (d + 6) 45 [.ref 3, .int (iI k)] (t, V, A, P) Q := by
  have k0 := hK.1
  unfold aMarks at hQ
  simp (disch := first | assumption | omega | exact isB_z | exact isB_o | exact iI_in' (by assumption) (by omega) (by omega) | exact cat_int _ | exact cat_ref _ | exact cat_null | decide) only [c_45, ↓x_45_0, ↓x_45_1, ↓x_45_4, ↓x_45_5, ↓x_45_6, up1_same, up1_ne, up1_up1, us_0, us_1, us_2, us_3, us_4, us_5, us_6, us_7, us_8, us_9, us_10, us_11, rw_zero, rw_succ, Option.toList_some, Option.toList_none, List.cons_append, List.nil_append, cat_int, cat_ref, cat_null, iI_add, iI_sub, iI_mul, iI_neg, List.length_cons, List.length_nil, ↓reduceIte, va_rf_some, exR, wiR, wkW, wkR, orR, rdR, iI_lt, iI_n0]
  by_cases c : k < 0
  · rw [if_pos (Or.inl c)] at hQ
    simp (disch := first | assumption | omega | exact isB_z | exact isB_o | exact iI_in' (by assumption) (by omega) (by omega) | exact cat_int _ | exact cat_ref _ | exact cat_null | decide) only [c, if_true, ↓x_45_9, ↓x_45_10, up1_same, up1_ne, up1_up1, us_0, us_1, us_2, us_3, us_4, us_5, us_6, us_7, us_8, us_9, us_10, us_11, rw_zero, rw_succ, Option.toList_some, Option.toList_none, List.cons_append, List.nil_append, cat_int, cat_ref, cat_null, iI_add, iI_sub, iI_mul, iI_neg, List.length_cons, List.length_nil, ↓reduceIte, va_rf_some, exR, wiR, wkW, wkR, orR, rdR]
    exact hQ V A P e h fr.rf
  · by_cases c2 : k < 3
    · rw [if_neg (by omega)] at hQ
      simp (disch := first | assumption | omega | exact isB_z | exact isB_o | exact iI_in' (by assumption) (by omega) (by omega) | exact cat_int _ | exact cat_ref _ | exact cat_null | decide) only [c, c2, if_true, if_false, ↓x_45_11, ↓x_45_12, ↓x_45_14, ↓x_45_15, ↓x_45_16, up1_same, up1_ne, up1_up1, us_0, us_1, us_2, us_3, us_4, us_5, us_6, us_7, us_8, us_9, us_10, us_11, rw_zero, rw_succ, Option.toList_some, Option.toList_none, List.cons_append, List.nil_append, cat_int, cat_ref, cat_null, iI_add, iI_sub, iI_mul, iI_neg, List.length_cons, List.length_nil, ↓reduceIte, va_rf_some, exR, wiR, wkW, wkR, orR, rdR]
      refine k_sendOne (k := 31 + k) hK hT h (by omega) (by omega) (fun V' A' P' e' q1 q2 => ?_)
      simp (disch := first | assumption | omega | exact isB_z | exact isB_o | exact iI_in' (by assumption) (by omega) (by omega) | exact cat_int _ | exact cat_ref _ | exact cat_null | decide) only [↓x_45_19, up1_same, up1_ne, up1_up1, us_0, us_1, us_2, us_3, us_4, us_5, us_6, us_7, us_8, us_9, us_10, us_11, rw_zero, rw_succ, Option.toList_some, Option.toList_none, List.cons_append, List.nil_append, cat_int, cat_ref, cat_null, iI_add, iI_sub, iI_mul, iI_neg, List.length_cons, List.length_nil, ↓reduceIte, va_rf_some, exR, wiR, wkW, wkR, orR, rdR]
      exact hQ V' A' P' e' q1 q2
    · rw [if_pos (by omega)] at hQ
      simp (disch := first | assumption | omega | exact isB_z | exact isB_o | exact iI_in' (by assumption) (by omega) (by omega) | exact cat_int _ | exact cat_ref _ | exact cat_null | decide) only [c, c2, if_false, ↓x_45_9, ↓x_45_10, up1_same, up1_ne, up1_up1, us_0, us_1, us_2, us_3, us_4, us_5, us_6, us_7, us_8, us_9, us_10, us_11, rw_zero, rw_succ, Option.toList_some, Option.toList_none, List.cons_append, List.nil_append, cat_int, cat_ref, cat_null, iI_add, iI_sub, iI_mul, iI_neg, List.length_cons, List.length_nil, ↓reduceIte, va_rf_some, exR, wiR, wkW, wkR, orR, rdR]
      exact hQ V A P e h fr.rf
theorem k_clears (hK : exK t) (h : RX V A P S e) (hQ : hqT t V A Q (aClears S)) : Call (d + 3) 47 [.ref 3] (t, V, A, P) Q := by
  obtain ⟨it, hx⟩ := h.ob
  have k0 := hK.1
  have k4 := hK.2.1.1
  have hX := h.wo.1
  have hw := h.wi.1
  unfold aClears at hQ
  simp (disch := first | assumption | omega | exact isB_z | exact isB_o | exact iI_in' (by assumption) (by omega) (by omega) | exact cat_int _ | exact cat_ref _ | exact cat_null | decide) only [c_47, ↓x_47_0, ↓x_47_1, ↓x_47_4, ↓x_47_7, up1_same, up1_ne, up1_up1, us_0, us_1, us_2, us_3, us_4, us_5, us_6, us_7, us_8, us_9, us_10, us_11, rw_zero, rw_succ, Option.toList_some, Option.toList_none, List.cons_append, List.nil_append, cat_int, cat_ref, cat_null, iI_add, iI_sub, iI_mul, iI_neg, List.length_cons, List.length_nil, ↓reduceIte, va_rf_some, exR, wiR, wkW, wkR, orR, rdR, hx, hw, iI_eq, iI_n0]
  by_cases c : S.X.1.length = 0
  · rw [if_pos c] at hQ
    rw [if_pos (by omega)]
    simp (disch := first | assumption | omega | exact isB_z | exact isB_o | exact iI_in' (by assumption) (by omega) (by omega) | exact cat_int _ | exact cat_ref _ | exact cat_null | decide) only [↓x_47_10, ↓x_47_12, up1_same, up1_ne, up1_up1, us_0, us_1, us_2, us_3, us_4, us_5, us_6, us_7, us_8, us_9, us_10, us_11, rw_zero, rw_succ, Option.toList_some, Option.toList_none, List.cons_append, List.nil_append, cat_int, cat_ref, cat_null, iI_add, iI_sub, iI_mul, iI_neg, List.length_cons, List.length_nil, ↓reduceIte, va_rf_some, exR, wiR, wkW, wkR, orR, rdR]
    exact hQ V A P e h fr.rf
  · rw [if_neg c] at hQ
    rw [if_neg (by omega)]
    simp (disch := first | assumption | omega | exact isB_z | exact isB_o | exact iI_in' (by assumption) (by omega) (by omega) | exact cat_int _ | exact cat_ref _ | exact cat_null | decide) only [↓x_47_13, ↓x_47_14, ↓x_47_17, ↓x_47_20, ↓x_47_21, ↓x_47_22, up1_same, up1_ne, up1_up1, us_0, us_1, us_2, us_3, us_4, us_5, us_6, us_7, us_8, us_9, us_10, us_11, rw_zero, rw_succ, Option.toList_some, Option.toList_none, List.cons_append, List.nil_append, cat_int, cat_ref, cat_null, iI_add, iI_sub, iI_mul, iI_neg, List.length_cons, List.length_nil, ↓reduceIte, va_rf_some, exR, wiR, wkW, wkR, orR, rdR, hx, hw]
    refine k_remember hK h (fun V1 A1 P1 e1 r1 r2 => ?_)
    obtain ⟨it1, hx1⟩ := r1.ob
    simp (disch := first | assumption | omega | exact isB_z | exact isB_o | exact iI_in' (by assumption) (by omega) (by omega) | exact cat_int _ | exact cat_ref _ | exact cat_null | decide) only [↓x_47_25, ↓x_47_26, ↓x_47_29, up1_same, up1_ne, up1_up1, us_0, us_1, us_2, us_3, us_4, us_5, us_6, us_7, us_8, us_9, us_10, us_11, rw_zero, rw_succ, Option.toList_some, Option.toList_none, List.cons_append, List.nil_append, cat_int, cat_ref, cat_null, iI_add, iI_sub, iI_mul, iI_neg, List.length_cons, List.length_nil, ↓reduceIte, va_rf_some, exR, wiR, wkW, wkR, orR, rdR, hx1]
    rw [k_empty k4 r1.wi.1]
    simp (disch := first | assumption | omega | exact isB_z | exact isB_o | exact iI_in' (by assumption) (by omega) (by omega) | exact cat_int _ | exact cat_ref _ | exact cat_null | decide) only [↓x_47_32, ↓x_47_33, up1_same, up1_ne, up1_up1, us_0, us_1, us_2, us_3, us_4, us_5, us_6, us_7, us_8, us_9, us_10, us_11, rw_zero, rw_succ, Option.toList_some, Option.toList_none, List.cons_append, List.nil_append, cat_int, cat_ref, cat_null, iI_add, iI_sub, iI_mul, iI_neg, List.length_cons, List.length_nil, ↓reduceIte, va_rf_some, exR, wiR, wkW, wkR, orR, rdR]
    refine hQ _ _ P1 e1 (r1.wire ⟨up1_same _ _ _, fun i hi => absurd hi (by simp), fun i hi => absurd hi (by simp), fun i hi => absurd hi (by simp)⟩ ⟨by simp, by simp, fun i hi => absurd hi (by simp), fun i hi => absurd hi (by simp)⟩ (fun a ha => up1_ne ha) (fun a ha => rfl)) (r2.tr ⟨fun a ha => up1_ne (by omega), fun a ha => rfl⟩)
end
