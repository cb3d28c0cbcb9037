/-! MORE CALLS THAT CHANGE THE STATE -/
theorem gset {l : List Int} {i j : Nat} {v : Int} : (l.set i v).getD j 0 = if j = i ∧ i < l.length then v else l.getD j 0 := by
  simp only [List.getD_eq_getElem?_getD, List.getElem?_set]
  by_cases c : j = i
  · subst c
    by_cases g : j < l.length
    · simp [g]
    · simp [g]
  · simp [c, Ne.symm c]
section
variable {d : Nat} {t : mL} {V : Nat → Nat → Value} {A : Nat → Nat → Int32} {P : Nat → Nat → Option Nat} {μ : mM} {Q : Option Value → mM → Prop} {S : aS} {e : Nat → Nat}
theorem tn_b {n : Int} {j : Nat} (h0 : 0 ≤ n) (h1 : n < 64) (hj : j < 6) : 0 ≤ tn n j ∧ tn n j < 64 := by
  unfold tn
  rcases (show j = 0 ∨ j = 1 ∨ j = 2 ∨ j = 3 ∨ j = 4 ∨ j = 5 by omega) with g | g | g | g | g | g <;> subst g <;> (split <;> omega)
theorem k_clear (hK : exK t) (h : RX V A P S e) (hQ : hqT t V A Q (aClear S)) : Call (d + 1) 45 [.ref 3] (t, V, A, P) Q := by
  obtain ⟨it, hx⟩ := h.ob
  have k0 := hK.1
  simp (disch := first | assumption | omega | exact isB_z | exact isB_o | exact iI_in' (by assumption) (by omega) (by omega) | exact cat_int _ | exact cat_ref _ | exact cat_null | decide) only [c_45, ↓x_45_0, ↓x_45_1, ↓x_45_4, ↓x_45_5, ↓x_45_6, ↓x_45_7, ↓x_45_10, ↓x_45_11, up1_same, up1_ne, up1_up1, us_0, us_1, us_2, us_3, us_4, us_5, us_6, us_7, us_8, us_9, us_10, us_11, rw_zero, rw_succ, Option.toList_some, Option.toList_none, List.cons_append, List.nil_append, cat_int, cat_ref, cat_null, iI_add, iI_sub, iI_mul, iI_neg, List.length_cons, List.length_nil, ↓reduceIte, va_rf_some, exR, wiR, wkW, wkR, orR, rdR, hx]
  refine hQ _ A P e ⟨⟨it, up1_same _ _ _⟩, wiH_eq h.wi (up1_ne (by omega)) rfl rfl rfl, h.wo, h.ul, h.ep, h.ei, fun j hj => ?_, fun i hi => ?_, h.ip, fun j hj => ?_, fun i hi => imH_eq (h.im i hi) (up1_ne (by omega)) rfl rfl rfl rfl, Nat.zero_le _, fun i hi => absurd hi (Nat.not_lt_zero _), scr_eq h.sc (fun a ha => up1_ne (by omega)), h.op⟩ ⟨fun a ha => up1_ne (by omega), fun _ _ => rfl⟩
  · rw [up1_ne (by omega)]; exact h.er j hj
  · exact ⟨wiH_eq (h.ew i hi).1 (up1_ne (by omega)) rfl rfl rfl, (h.ew i hi).2⟩
  · rw [up1_ne (by omega)]; exact h.ir j hj
set_option maxHeartbeats 400000 in
theorem k_type {c : Int} (hK : exK t) (h : RX V A P S e) (h1 : -2147483648 ≤ c ∧ c < 2147483648) (hQ : hqT t V A Q (aType S c)) : Call (d + 1) 44 [.ref 3, .int (iI c)] (t, V, A, P) Q := by
  obtain ⟨it, hx⟩ := h.ob
  have k0 := hK.1
  obtain ⟨k11, k11l⟩ := hK.2.2.2.2.2.1
  have htl := h.tl
  unfold aType at hQ
  simp (disch := first | assumption | omega | exact isB_z | exact isB_o | exact iI_in' (by assumption) (by omega) (by omega) | exact cat_int _ | exact cat_ref _ | exact cat_null | decide) only [c_44, ↓x_44_0, ↓x_44_1, ↓x_44_4, ↓x_44_5, ↓x_44_8, up1_same, up1_ne, up1_up1, us_0, us_1, us_2, us_3, us_4, us_5, us_6, us_7, us_8, us_9, us_10, us_11, rw_zero, rw_succ, Option.toList_some, Option.toList_none, List.cons_append, List.nil_append, cat_int, cat_ref, cat_null, iI_add, iI_sub, iI_mul, iI_neg, List.length_cons, List.length_nil, ↓reduceIte, va_rf_some, exR, wiR, wkW, wkR, orR, rdR, iI_lt, iI_n0]
  by_cases c0 : c < 0
  · rw [if_pos (Or.inl c0)] at hQ
    simp (disch := first | assumption | omega | exact isB_z | exact isB_o | exact iI_in' (by assumption) (by omega) (by omega) | exact cat_int _ | exact cat_ref _ | exact cat_null | decide) only [c0, if_true, ↓x_44_11, ↓x_44_12, up1_same, up1_ne, up1_up1, us_0, us_1, us_2, us_3, us_4, us_5, us_6, us_7, us_8, us_9, us_10, us_11, rw_zero, rw_succ, Option.toList_some, Option.toList_none, List.cons_append, List.nil_append, cat_int, cat_ref, cat_null, iI_add, iI_sub, iI_mul, iI_neg, List.length_cons, List.length_nil, ↓reduceIte, va_rf_some, exR, wiR, wkW, wkR, orR, rdR]
    exact hQ V A P e h fr.rf
  · by_cases c1 : 255 < c
    · rw [if_pos (Or.inr c1)] at hQ
      simp (disch := first | assumption | omega | exact isB_z | exact isB_o | exact iI_in' (by assumption) (by omega) (by omega) | exact cat_int _ | exact cat_ref _ | exact cat_null | decide) only [c0, c1, if_true, if_false, ↓x_44_11, ↓x_44_12, up1_same, up1_ne, up1_up1, us_0, us_1, us_2, us_3, us_4, us_5, us_6, us_7, us_8, us_9, us_10, us_11, rw_zero, rw_succ, Option.toList_some, Option.toList_none, List.cons_append, List.nil_append, cat_int, cat_ref, cat_null, iI_add, iI_sub, iI_mul, iI_neg, List.length_cons, List.length_nil, ↓reduceIte, va_rf_some, exR, wiR, wkW, wkR, orR, rdR]
      exact hQ V A P e h fr.rf
    · rw [if_neg (by omega)] at hQ
      have e1 : ¬ (S.T.length : Int) < 0 := by omega
      by_cases c2 : 120 ≤ S.T.length
      · rw [if_pos c2] at hQ
        have e2 : ¬ (S.T.length : Int) < 120 := by omega
        simp (disch := first | assumption | omega | exact isB_z | exact isB_o | exact iI_in' (by assumption) (by omega) (by omega) | exact cat_int _ | exact cat_ref _ | exact cat_null | decide) only [c0, c1, e1, e2, if_false, ↓x_44_13, ↓x_44_14, ↓x_44_17, ↓x_44_20, ↓x_44_21, ↓x_44_24, ↓x_44_26, ↓x_44_29, ↓x_44_31, up1_same, up1_ne, up1_up1, us_0, us_1, us_2, us_3, us_4, us_5, us_6, us_7, us_8, us_9, us_10, us_11, rw_zero, rw_succ, Option.toList_some, Option.toList_none, List.cons_append, List.nil_append, cat_int, cat_ref, cat_null, iI_add, iI_sub, iI_mul, iI_neg, List.length_cons, List.length_nil, ↓reduceIte, va_rf_some, exR, wiR, wkW, wkR, orR, rdR, hx, iI_lt, iI_n0]
        exact hQ V A P e h fr.rf
      · rw [if_neg c2] at hQ
        have e2 : (S.T.length : Int) < 120 := by omega
        have tn1 : ((S.T.length : Nat) : Int).toNat = S.T.length := Int.toNat_natCast _
        simp (disch := first | assumption | omega | exact isB_z | exact isB_o | exact iI_in' (by assumption) (by omega) (by omega) | exact cat_int _ | exact cat_ref _ | exact cat_null | decide) only [c0, c1, e1, e2, if_true, if_false, ↓x_44_13, ↓x_44_14, ↓x_44_17, ↓x_44_20, ↓x_44_21, ↓x_44_24, ↓x_44_26, ↓x_44_29, ↓x_44_31, ↓x_44_32, ↓x_44_33, ↓x_44_36, ↓x_44_37, ↓x_44_40, ↓x_44_41, ↓x_44_42, ↓x_44_43, ↓x_44_44, ↓x_44_47, ↓x_44_48, ↓x_44_49, ↓x_44_52, ↓x_44_53, ↓x_44_56, up1_same, up1_ne, up1_up1, us_0, us_1, us_2, us_3, us_4, us_5, us_6, us_7, us_8, us_9, us_10, us_11, rw_zero, rw_succ, Option.toList_some, Option.toList_none, List.cons_append, List.nil_append, cat_int, cat_ref, cat_null, iI_add, iI_sub, iI_mul, iI_neg, List.length_cons, List.length_nil, ↓reduceIte, va_rf_some, exR, wiR, wkW, wkR, orR, rdR, hx, iI_lt, iI_n0, iI_cl, tn1]
        refine hQ _ _ P e ⟨⟨it, ?_⟩, wiH_eq h.wi (up1_ne (by omega)) (up1_ne (by omega)) (up1_ne (by omega)) (up1_ne (by omega)), h.wo, h.ul, h.ep, h.ei, fun j hj => ?_, fun i hi => ?_, h.ip, fun j hj => ?_, fun i hi => imH_eq (h.im i hi) (up1_ne (by omega)) (by rw [up1_ne (by omega)]) (up1_ne (by omega)) (up1_ne (by omega)) (up1_ne (by omega)), ?_, fun i hi => ?_, scr_eq h.sc (fun a ha => up1_ne (by omega)), h.op⟩ ⟨fun a ha => up1_ne (by omega), fun a ha => up1_ne (by omega)⟩
        · rw [up1_same, show ((aS.mk S.X S.U S.I (S.T ++ [c])).T.length : Int) = S.T.length + 1 from by show (((S.T ++ [c]).length : Nat) : Int) = _; simp]
        · rw [up1_ne (by omega)]; exact h.er j hj
        · have := h.ep i (by have := h.ul; have hi' : i < S.U.length := hi; omega)
          exact ⟨wiH_eq (h.ew i hi).1 (up1_ne (by omega)) (up1_ne (by omega)) (up1_ne (by omega)) (up1_ne (by omega)), (h.ew i hi).2⟩
        · rw [up1_ne (by omega)]; exact h.ir j hj
        · show (S.T ++ [c]).length ≤ 120; simp; omega
        · have hi0 : i < (S.T ++ [c]).length := hi
          have hi' : i < S.T.length + 1 := by simpa using hi0
          rw [up1_same, show (aS.mk S.X S.U S.I (S.T ++ [c])).T = S.T ++ [c] from rfl]
          by_cases g : i = S.T.length
          · subst g
            rw [upd_same, getD_app_eq]
            exact ⟨rfl, by omega, by omega⟩
          · rw [upd_ne g, getD_app_lt (by omega)]
            exact h.tx i (by omega)
end
