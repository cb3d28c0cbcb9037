/-! UNDO, KEEP, BACK -/
theorem gtake {α : Type} {l : List α} {n i : Nat} {z : α} (h : i < n) : (l.take n).getD i z = l.getD i z := by
  simp [List.getD_eq_getElem?_getD, List.getElem?_take, h]
theorem RX.cut {V V' : Nat → Nat → Value} {A : Nat → Nat → Int32} {P : Nat → Nat → Option Nat} {S : aS} {e : Nat → Nat} {n : Nat} {it : Int} (h : RX V A P S e) (hn : n ≤ S.U.length) (h3 : V' 3 = exR S.T.length it n) (hV : ∀ a, a ≠ 3 → V' a = V a) : RX V' A P (aS.mk S.X (S.U.take n) S.I S.T) e := by
  have hl : (S.U.take n).length = n := by rw [List.length_take]; omega
  have hul := h.ul
  refine ⟨⟨it, ?_⟩, wiH_eq h.wi (hV _ (by omega)) rfl rfl rfl, h.wo, ?_, h.ep, h.ei, fun j hj => ?_, fun i hi => ?_, h.ip, fun j hj => ?_, fun i hi => imH_eq (h.im i hi) (hV _ (by omega)) rfl rfl rfl rfl, h.tl, h.tx, scr_eq h.sc (fun a ha => hV a (by omega)), h.op⟩
  · rw [show (aS.mk S.X (S.U.take n) S.I S.T).U.length = n from hl]; exact h3
  · show (S.U.take n).length ≤ 6; omega
  · rw [hV _ (by omega)]; exact h.er j hj
  · have hi' : i < (S.U.take n).length := hi
    have := h.ew i (by omega)
    rw [show (aS.mk S.X (S.U.take n) S.I S.T).U = S.U.take n from rfl, gtake (by omega)]
    exact ⟨wiH_eq this.1 (hV _ (by omega)) rfl rfl rfl, this.2⟩
  · rw [hV _ (by omega)]; exact h.ir j hj
section
variable {d : Nat} {t : mL} {V : Nat → Nat → Value} {A : Nat → Nat → Int32} {P : Nat → Nat → Option Nat} {μ : mM} {Q : Option Value → mM → Prop} {S : aS} {e : Nat → Nat}
theorem k_undo (hK : exK t) (h : RX V A P S e) (hQ : hqT t V A Q (aUndo S)) : Call (d + 2) 48 [.ref 3] (t, V, A, P) Q := by
  obtain ⟨it, hx⟩ := h.ob
  have k0 := hK.1
  obtain ⟨k8, k8l⟩ := hK.2.2.1
  have hul := h.ul
  unfold aUndo at hQ
  by_cases c : S.U.length = 0
  · rw [if_pos c] at hQ
    have e1 : ¬ 0 < (S.U.length : Int) := by omega
    simp (disch := first | assumption | omega | exact isB_z | exact isB_o | exact iI_in' (by assumption) (by omega) (by omega) | exact cat_int _ | exact cat_ref _ | exact cat_null | decide) only [c_48, ↓x_48_0, ↓x_48_1, ↓x_48_4, ↓x_48_7, ↓x_48_8, ↓x_48_11, ↓x_48_13, ↓x_48_16, ↓x_48_18, up1_same, up1_ne, up1_up1, us_0, us_1, us_2, us_3, us_4, us_5, us_6, us_7, us_8, us_9, us_10, us_11, rw_zero, rw_succ, Option.toList_some, Option.toList_none, List.cons_append, List.nil_append, cat_int, cat_ref, cat_null, iI_add, iI_sub, iI_mul, iI_neg, List.length_cons, List.length_nil, ↓reduceIte, va_rf_some, exR, wiR, wkW, wkR, orR, rdR, hx, iI_lt, iI_le, iI_n0, e1, if_false]
    exact hQ V A P e h fr.rf
  · rw [if_neg c] at hQ
    have e1 : 0 < (S.U.length : Int) := by omega
    have e2 : ¬ 6 < (S.U.length : Int) := by omega
    have ci : (S.U.length : Int) - 1 = ((S.U.length - 1 : Nat) : Int) := by omega
    obtain ⟨n, hn⟩ : ∃ n, n = S.U.length - 1 := ⟨_, rfl⟩
    rw [ci, ← hn] at hQ
    have hn6 : n < 6 := by omega
    obtain ⟨hp, hel⟩ := h.ep n hn6
    have kw := hK.2.2.2.2.2.2.2.2.2.2.1 (e n) hel
    have tn1 : ((n : Nat) : Int).toNat = n := Int.toNat_natCast _
    rw [← hn] at ci
    simp (disch := first | assumption | omega | exact isB_z | exact isB_o | exact iI_in' (by assumption) (by omega) (by omega) | exact cat_int _ | exact cat_ref _ | exact cat_null | decide) only [c_48, ↓x_48_0, ↓x_48_1, ↓x_48_4, ↓x_48_7, ↓x_48_8, ↓x_48_11, ↓x_48_13, ↓x_48_16, ↓x_48_18, ↓x_48_19, ↓x_48_20, ↓x_48_21, ↓x_48_24, ↓x_48_25, ↓x_48_26, up1_same, up1_ne, up1_up1, us_0, us_1, us_2, us_3, us_4, us_5, us_6, us_7, us_8, us_9, us_10, us_11, rw_zero, rw_succ, Option.toList_some, Option.toList_none, List.cons_append, List.nil_append, cat_int, cat_ref, cat_null, iI_add, iI_sub, iI_mul, iI_neg, List.length_cons, List.length_nil, ↓reduceIte, va_rf_some, exR, wiR, wkW, wkR, orR, rdR, hx, iI_lt, iI_le, iI_n0, e1, e2, if_true, if_false, ci]
    simp (disch := first | assumption | omega | exact isB_z | exact isB_o | exact iI_in' (by assumption) (by omega) (by omega) | exact cat_int _ | exact cat_ref _ | exact cat_null | decide) only [↓x_48_29, ↓x_48_30, ↓x_48_33, ↓x_48_34, ↓x_48_37, ↓x_48_38, ↓x_48_39, up1_same, up1_ne, up1_up1, us_0, us_1, us_2, us_3, us_4, us_5, us_6, us_7, us_8, us_9, us_10, us_11, rw_zero, rw_succ, Option.toList_some, Option.toList_none, List.cons_append, List.nil_append, cat_int, cat_ref, cat_null, iI_add, iI_sub, iI_mul, iI_neg, List.length_cons, List.length_nil, ↓reduceIte, va_rf_some, exR, wiR, wkW, wkR, orR, rdR, iI_cl, tn1, hp]
    simp (disch := first | assumption | omega | exact isB_z | exact isB_o | exact iI_in' (by assumption) (by omega) (by omega) | exact cat_int _ | exact cat_ref _ | exact cat_null | decide) only [↓x_48_42, up1_same, up1_ne, up1_up1, us_0, us_1, us_2, us_3, us_4, us_5, us_6, us_7, us_8, us_9, us_10, us_11, rw_zero, rw_succ, Option.toList_some, Option.toList_none, List.cons_append, List.nil_append, cat_int, cat_ref, cat_null, iI_add, iI_sub, iI_mul, iI_neg, List.length_cons, List.length_nil, ↓reduceIte, va_rf_some, exR, wiR, wkW, wkR, orR, rdR]
    have h1 := h.cut (V' := up1 V 3 (exR S.T.length it n)) (n := n) (by omega) (up1_same _ _ _) (fun a ha => up1_ne ha)
    have h2 := h.ew n (by omega)
    refine k_carry kw hK.2.1 (wiH_eq h2.1 (up1_ne (by omega)) rfl rfl rfl) ⟨_, _, _, _, h1.wi.1⟩ h2.2 (by omega) (fun A' q1 q2 => ?_)
    simp (disch := first | assumption | omega | exact isB_z | exact isB_o | exact iI_in' (by assumption) (by omega) (by omega) | exact cat_int _ | exact cat_ref _ | exact cat_null | decide) only [↓x_48_45, ↓x_48_46, ↓x_48_49, up1_same, up1_ne, up1_up1, us_0, us_1, us_2, us_3, us_4, us_5, us_6, us_7, us_8, us_9, us_10, us_11, rw_zero, rw_succ, Option.toList_some, Option.toList_none, List.cons_append, List.nil_append, cat_int, cat_ref, cat_null, iI_add, iI_sub, iI_mul, iI_neg, List.length_cons, List.length_nil, ↓reduceIte, va_rf_some, exR, wiR, wkW, wkR, orR, rdR]
    refine hQ _ A' P e (h1.wire q2 h2.2 (fun a ha => up1_ne ha) (fun a ha => q1 a (by omega))) ⟨fun a ha => by rw [up1_ne (by omega), up1_ne (by omega)], fun a ha => q1 a (by omega)⟩
theorem k_keep {i : Int} (hK : exK t) (h : RX V A P S e) (h1 : -2147483648 ≤ i ∧ i < 2147483648) (hQ : hqT t V A Q (aKeep S i)) : Call (d + 2) 58 [.ref 3, .int (iI i)] (t, V, A, P) Q := by
  obtain ⟨it, hx⟩ := h.ob
  have k0 := hK.1
  have k4 := hK.2.1.1
  have hw := h.wi.1
  obtain ⟨k9, k9l⟩ := hK.2.2.2.1
  obtain ⟨k10, k10l⟩ := hK.2.2.2.2.1
  unfold aKeep at hQ
  by_cases c : 0 ≤ i ∧ i < 2
  · rw [if_pos c] at hQ
    have e1 : ¬ i < 0 := by omega
    have e2 : i < 2 := by omega
    obtain ⟨n, hn⟩ : ∃ n : Nat, i = n := ⟨i.toNat, by omega⟩
    subst hn
    have tn1 : ((n : Nat) : Int).toNat = n := Int.toNat_natCast _
    rw [tn1] at hQ
    have hn2 : n < 2 := by omega
    have hp := h.ip n hn2
    have kw := hK.2.2.2.2.2.2.2.2.2.2.2 n hn2
    simp (disch := first | assumption | omega | exact isB_z | exact isB_o | exact iI_in' (by assumption) (by omega) (by omega) | exact cat_int _ | exact cat_ref _ | exact cat_null | decide) only [c_58, ↓x_58_0, ↓x_58_1, ↓x_58_4, ↓x_58_5, ↓x_58_6, ↓x_58_9, ↓x_58_10, ↓x_58_11, ↓x_58_12, ↓x_58_15, ↓x_58_16, ↓x_58_19, ↓x_58_20, up1_same, up1_ne, up1_up1, us_0, us_1, us_2, us_3, us_4, us_5, us_6, us_7, us_8, us_9, us_10, us_11, rw_zero, rw_succ, Option.toList_some, Option.toList_none, List.cons_append, List.nil_append, cat_int, cat_ref, cat_null, iI_add, iI_sub, iI_mul, iI_neg, List.length_cons, List.length_nil, ↓reduceIte, va_rf_some, exR, wiR, wkW, wkR, orR, rdR, hx, iI_lt, iI_n0, e1, e2, if_true, if_false, iI_cl, tn1, hp]
    simp (disch := first | assumption | omega | exact isB_z | exact isB_o | exact iI_in' (by assumption) (by omega) (by omega) | exact cat_int _ | exact cat_ref _ | exact cat_null | decide) only [↓x_58_21, up1_same, up1_ne, up1_up1, us_0, us_1, us_2, us_3, us_4, us_5, us_6, us_7, us_8, us_9, us_10, us_11, rw_zero, rw_succ, Option.toList_some, Option.toList_none, List.cons_append, List.nil_append, cat_int, cat_ref, cat_null, iI_add, iI_sub, iI_mul, iI_neg, List.length_cons, List.length_nil, ↓reduceIte, va_rf_some, exR, wiR, wkW, wkR, orR, rdR]
    refine k_carry hK.2.1 kw h.wi (h.ir n hn2) h.wo (by omega) (fun A1 q1 q2 => ?_)
    simp (disch := first | assumption | omega | exact isB_z | exact isB_o | exact iI_in' (by assumption) (by omega) (by omega) | exact cat_int _ | exact cat_ref _ | exact cat_null | decide) only [↓x_58_24, ↓x_58_25, ↓x_58_28, ↓x_58_29, ↓x_58_30, ↓x_58_31, ↓x_58_32, ↓x_58_35, ↓x_58_38, up1_same, up1_ne, up1_up1, us_0, us_1, us_2, us_3, us_4, us_5, us_6, us_7, us_8, us_9, us_10, us_11, rw_zero, rw_succ, Option.toList_some, Option.toList_none, List.cons_append, List.nil_append, cat_int, cat_ref, cat_null, iI_add, iI_sub, iI_mul, iI_neg, List.length_cons, List.length_nil, ↓reduceIte, va_rf_some, exR, wiR, wkW, wkR, orR, rdR, hx, hw, iI_cl, tn1]
    refine hQ _ _ P e ⟨⟨it, by rw [up1_ne (by omega)]; exact hx⟩, wiH_eq h.wi (up1_ne (by omega)) (by rw [up1_ne (by omega)]; exact q1 _ (by omega)) (by rw [up1_ne (by omega)]; exact q1 _ (by omega)) (by rw [up1_ne (by omega)]; exact q1 _ (by omega)), h.wo, h.ul, h.ep, h.ei, fun j hj => ?_, fun j hj => ?_, h.ip, fun j hj => ?_, fun j hj => ?_, h.tl, fun j hj => by rw [up1_ne (by omega), q1 _ (by omega)]; exact h.tx j hj, scr_eq h.sc (fun a ha => up1_ne (by omega)), h.op⟩ ⟨fun a ha => ?_, fun a ha => ?_⟩
    · rw [up1_ne (by omega)]; exact h.er j hj
    · have := h.ep j (by have := h.ul; have hj' : j < S.U.length := hj; omega)
      exact ⟨wiH_eq (h.ew j hj).1 (up1_ne (by omega)) (by rw [up1_ne (by omega)]; exact q1 _ (by omega)) (by rw [up1_ne (by omega)]; exact q1 _ (by omega)) (by rw [up1_ne (by omega)]; exact q1 _ (by omega)), (h.ew j hj).2⟩
    · by_cases g : j = n
      · subst g; rw [up1_same]; exact ⟨_, _, _, _, rfl⟩
      · rw [up1_ne (by omega)]; exact h.ir j hj
    · show imH _ _ j (if j = n then some S.X else S.I j)
      by_cases g : j = n
      · subst g
        rw [if_pos rfl]
        refine ⟨by rw [up1_same, upd_same], wiH_eq q2 rfl (up1_ne (by omega)) (up1_ne (by omega)) (up1_ne (by omega)), h.wo⟩
      · rw [if_neg g]
        refine imH_eq (h.im j hj) (up1_ne (by omega)) (by rw [up1_same, upd_ne g, q1 _ (by omega)]) (by rw [up1_ne (by omega)]; exact q1 _ (by omega)) (by rw [up1_ne (by omega)]; exact q1 _ (by omega)) (by rw [up1_ne (by omega)]; exact q1 _ (by omega))
    · rw [up1_ne (by omega)]
    · rw [up1_ne (by omega)]; exact q1 _ (by omega)
  · rw [if_neg c] at hQ
    simp (disch := first | assumption | omega | exact isB_z | exact isB_o | exact iI_in' (by assumption) (by omega) (by omega) | exact cat_int _ | exact cat_ref _ | exact cat_null | decide) only [c_58, ↓x_58_0, ↓x_58_1, ↓x_58_4, ↓x_58_5, ↓x_58_6, ↓x_58_9, ↓x_58_10, up1_same, up1_ne, up1_up1, us_0, us_1, us_2, us_3, us_4, us_5, us_6, us_7, us_8, us_9, us_10, us_11, rw_zero, rw_succ, Option.toList_some, Option.toList_none, List.cons_append, List.nil_append, cat_int, cat_ref, cat_null, iI_add, iI_sub, iI_mul, iI_neg, List.length_cons, List.length_nil, ↓reduceIte, va_rf_some, exR, wiR, wkW, wkR, orR, rdR, iI_lt, iI_n0]
    by_cases e1 : i < 0
    · simp only [e1, if_true]; exact hQ V A P e h fr.rf
    · have e2 : ¬ i < 2 := by omega
      simp only [e1, e2, if_false]; exact hQ V A P e h fr.rf
theorem k_back {i : Int} (hK : exK t) (h : RX V A P S e) (h1 : -2147483648 ≤ i ∧ i < 2147483648) (hQ : hqT t V A Q (aBack S i)) : Call (d + 2) 59 [.ref 3, .int (iI i)] (t, V, A, P) Q := by
  obtain ⟨it, hx⟩ := h.ob
  have k0 := hK.1
  have k4 := hK.2.1.1
  have hw := h.wi.1
  obtain ⟨k9, k9l⟩ := hK.2.2.2.1
  obtain ⟨k10, k10l⟩ := hK.2.2.2.2.1
  unfold aBack at hQ
  by_cases c : 0 ≤ i ∧ i < 2
  · rw [if_pos c] at hQ
    have e1 : ¬ i < 0 := by omega
    have e2 : i < 2 := by omega
    obtain ⟨n, hn⟩ : ∃ n : Nat, i = n := ⟨i.toNat, by omega⟩
    subst hn
    have tn1 : ((n : Nat) : Int).toNat = n := Int.toNat_natCast _
    rw [tn1] at hQ
    have hn2 : n < 2 := by omega
    have hp := h.ip n hn2
    have him := h.im n hn2
    have kw := hK.2.2.2.2.2.2.2.2.2.2.2 n hn2
    cases hY : S.I n with
    | none =>
      rw [hY] at hQ him
      have him' : A 10 n = iI 0 := him
      simp (disch := first | assumption | omega | exact isB_z | exact isB_o | exact iI_in' (by assumption) (by omega) (by omega) | exact cat_int _ | exact cat_ref _ | exact cat_null | decide) only [c_59, ↓x_59_0, ↓x_59_1, ↓x_59_4, ↓x_59_5, ↓x_59_6, ↓x_59_9, ↓x_59_10, ↓x_59_11, ↓x_59_12, ↓x_59_15, ↓x_59_16, ↓x_59_17, ↓x_59_20, ↓x_59_22, up1_same, up1_ne, up1_up1, us_0, us_1, us_2, us_3, us_4, us_5, us_6, us_7, us_8, us_9, us_10, us_11, rw_zero, rw_succ, Option.toList_some, Option.toList_none, List.cons_append, List.nil_append, cat_int, cat_ref, cat_null, iI_add, iI_sub, iI_mul, iI_neg, List.length_cons, List.length_nil, ↓reduceIte, va_rf_some, exR, wiR, wkW, wkR, orR, rdR, hx, iI_lt, iI_eq, iI_n0, e1, e2, if_true, if_false, iI_cl, tn1, him']
      exact hQ V A P e h fr.rf
    | some Y =>
      rw [hY] at hQ him
      obtain ⟨i1, i2, i3⟩ : A 10 n = iI 1 ∧ wiH V A (54 + 4 * n) Y ∧ wf Y := him
      simp (disch := first | assumption | omega | exact isB_z | exact isB_o | exact iI_in' (by assumption) (by omega) (by omega) | exact cat_int _ | exact cat_ref _ | exact cat_null | decide) only [c_59, ↓x_59_0, ↓x_59_1, ↓x_59_4, ↓x_59_5, ↓x_59_6, ↓x_59_9, ↓x_59_10, ↓x_59_11, ↓x_59_12, ↓x_59_15, ↓x_59_16, ↓x_59_17, up1_same, up1_ne, up1_up1, us_0, us_1, us_2, us_3, us_4, us_5, us_6, us_7, us_8, us_9, us_10, us_11, rw_zero, rw_succ, Option.toList_some, Option.toList_none, List.cons_append, List.nil_append, cat_int, cat_ref, cat_null, iI_add, iI_sub, iI_mul, iI_neg, List.length_cons, List.length_nil, ↓reduceIte, va_rf_some, exR, wiR, wkW, wkR, orR, rdR, hx, iI_lt, iI_eq, iI_n0, e1, e2, if_true, if_false, iI_cl, tn1, i1]
      rw [if_neg (show ¬ (1 : Int) = 0 by omega)]
      simp (disch := first | assumption | omega | exact isB_z | exact isB_o | exact iI_in' (by assumption) (by omega) (by omega) | exact cat_int _ | exact cat_ref _ | exact cat_null | decide) only [↓x_59_23, ↓x_59_24, ↓x_59_27, ↓x_59_28, ↓x_59_29, ↓x_59_30, up1_same, up1_ne, up1_up1, us_0, us_1, us_2, us_3, us_4, us_5, us_6, us_7, us_8, us_9, us_10, us_11, rw_zero, rw_succ, Option.toList_some, Option.toList_none, List.cons_append, List.nil_append, cat_int, cat_ref, cat_null, iI_add, iI_sub, iI_mul, iI_neg, List.length_cons, List.length_nil, ↓reduceIte, va_rf_some, exR, wiR, wkW, wkR, orR, rdR, hx, iI_cl, tn1, hp]
      simp (disch := first | assumption | omega | exact isB_z | exact isB_o | exact iI_in' (by assumption) (by omega) (by omega) | exact cat_int _ | exact cat_ref _ | exact cat_null | decide) only [↓x_59_33, up1_same, up1_ne, up1_up1, us_0, us_1, us_2, us_3, us_4, us_5, us_6, us_7, us_8, us_9, us_10, us_11, rw_zero, rw_succ, Option.toList_some, Option.toList_none, List.cons_append, List.nil_append, cat_int, cat_ref, cat_null, iI_add, iI_sub, iI_mul, iI_neg, List.length_cons, List.length_nil, ↓reduceIte, va_rf_some, exR, wiR, wkW, wkR, orR, rdR]
      refine k_carry kw hK.2.1 i2 ⟨_, _, _, _, hw⟩ i3 (by omega) (fun A' q1 q2 => ?_)
      simp (disch := first | assumption | omega | exact isB_z | exact isB_o | exact iI_in' (by assumption) (by omega) (by omega) | exact cat_int _ | exact cat_ref _ | exact cat_null | decide) only [↓x_59_36, ↓x_59_37, ↓x_59_38, ↓x_59_41, ↓x_59_42, ↓x_59_45, ↓x_59_48, up1_same, up1_ne, up1_up1, us_0, us_1, us_2, us_3, us_4, us_5, us_6, us_7, us_8, us_9, us_10, us_11, rw_zero, rw_succ, Option.toList_some, Option.toList_none, List.cons_append, List.nil_append, cat_int, cat_ref, cat_null, iI_add, iI_sub, iI_mul, iI_neg, List.length_cons, List.length_nil, ↓reduceIte, va_rf_some, exR, wiR, wkW, wkR, orR, rdR, hx]
      have hh := h.wire q2 i3 (fun a ha => up1_ne ha) (fun a ha => q1 a (by omega))
      have h2 := hh.cut (V' := up1 (up1 V 4 (wiX 4 Y)) 3 (exR S.T.length it 0)) (n := 0) (it := it) (Nat.zero_le _) (up1_same _ _ _) (fun a ha => up1_ne ha)
      refine hQ _ A' P e h2 ⟨fun a ha => by rw [up1_ne (by omega), up1_ne (by omega)], fun a ha => q1 a (by omega)⟩
  · rw [if_neg c] at hQ
    simp (disch := first | assumption | omega | exact isB_z | exact isB_o | exact iI_in' (by assumption) (by omega) (by omega) | exact cat_int _ | exact cat_ref _ | exact cat_null | decide) only [c_59, ↓x_59_0, ↓x_59_1, ↓x_59_4, ↓x_59_5, ↓x_59_6, ↓x_59_9, ↓x_59_10, up1_same, up1_ne, up1_up1, us_0, us_1, us_2, us_3, us_4, us_5, us_6, us_7, us_8, us_9, us_10, us_11, rw_zero, rw_succ, Option.toList_some, Option.toList_none, List.cons_append, List.nil_append, cat_int, cat_ref, cat_null, iI_add, iI_sub, iI_mul, iI_neg, List.length_cons, List.length_nil, ↓reduceIte, va_rf_some, exR, wiR, wkW, wkR, orR, rdR, iI_lt, iI_n0]
    by_cases e1 : i < 0
    · simp only [e1, if_true]; exact hQ V A P e h fr.rf
    · have e2 : ¬ i < 2 := by omega
      simp only [e1, e2, if_false]; exact hQ V A P e h fr.rf
end
