/-! MORE CALLS THAT CHANGE THE STATE -/
theorem gset {l : List Int} {i j : Nat} {v : Int} : (l.set i v).getD j 0 = if j = i ∧ i < l.length then v else l.getD j 0 := by
  simp only [List.getD_eq_getElem?_getD, List.getElem?_set]
  by_cases c : j = i
  · subst c
    by_cases g : j < l.length
    · simp [g]
    · simp [g]
  · simp [c, Ne.symm c]
section
variable {d : Nat} {t : mL} {V : Nat → Nat → Value} {A : Nat → Nat → Int32} {P : Nat → Nat → Option Nat} {μ : mM} {Q : Option Value → mM → Prop} {S : aS} {e : Nat → Nat}
theorem k_clear (hK : exK t) (h : RX V A P S e) (hQ : hqT t V A Q (aClear S)) : Call (d + 1) 42 [.ref 3] (t, V, A, P) Q := by
  obtain ⟨it, hx⟩ := h.ob
  have k0 := hK.1
  simp (disch := first | assumption | omega | exact isB_z | exact isB_o | exact iI_in' (by assumption) (by omega) (by omega) | exact cat_int _ | exact cat_ref _ | exact cat_null | decide) only [c_42, ↓x_42_0, ↓x_42_1, ↓x_42_4, ↓x_42_5, ↓x_42_6, ↓x_42_7, ↓x_42_10, ↓x_42_11, up1_same, up1_ne, up1_up1, us_0, us_1, us_2, us_3, us_4, us_5, us_6, us_7, us_8, us_9, us_10, us_11, rw_zero, rw_succ, Option.toList_some, Option.toList_none, List.cons_append, List.nil_append, cat_int, cat_ref, cat_null, iI_add, iI_sub, iI_mul, iI_neg, List.length_cons, List.length_nil, ↓reduceIte, va_rf_some, exR, wiR, wkW, wkR, orR, rdR, hx]
  refine hQ _ A P e ⟨⟨it, up1_same _ _ _⟩, wiH_eq h.wi (up1_ne (by omega)) rfl rfl rfl, h.wo, h.ul, h.ep, h.ei, fun j hj => ?_, fun i hi => ?_, h.ip, fun j hj => ?_, fun i hi => imH_eq (h.im i hi) (up1_ne (by omega)) rfl rfl rfl rfl, Nat.zero_le _, fun i hi => absurd hi (Nat.not_lt_zero _), scr_eq h.sc (fun a ha => up1_ne (by omega)), h.op⟩ ⟨fun a ha => up1_ne (by omega), fun _ _ => rfl⟩
  · rw [up1_ne (by omega)]; exact h.er j hj
  · exact ⟨wiH_eq (h.ew i hi).1 (up1_ne (by omega)) rfl rfl rfl, (h.ew i hi).2⟩
  · rw [up1_ne (by omega)]; exact h.ir j hj
set_option maxHeartbeats 400000 in
theorem k_type {c : Int} (hK : exK t) (h : RX V A P S e) (h1 : -2147483648 ≤ c ∧ c < 2147483648) (hQ : hqT t V A Q (aType S c)) : Call (d + 1) 41 [.ref 3, .int (iI c)] (t, V, A, P) Q := by
  obtain ⟨it, hx⟩ := h.ob
  have k0 := hK.1
  obtain ⟨k11, k11l⟩ := hK.2.2.2.2.2.1
  have htl := h.tl
  unfold aType at hQ
  simp (disch := first | assumption | omega | exact isB_z | exact isB_o | exact iI_in' (by assumption) (by omega) (by omega) | exact cat_int _ | exact cat_ref _ | exact cat_null | decide) only [c_41, ↓x_41_0, ↓x_41_1, ↓x_41_4, ↓x_41_5, ↓x_41_8, up1_same, up1_ne, up1_up1, us_0, us_1, us_2, us_3, us_4, us_5, us_6, us_7, us_8, us_9, us_10, us_11, rw_zero, rw_succ, Option.toList_some, Option.toList_none, List.cons_append, List.nil_append, cat_int, cat_ref, cat_null, iI_add, iI_sub, iI_mul, iI_neg, List.length_cons, List.length_nil, ↓reduceIte, va_rf_some, exR, wiR, wkW, wkR, orR, rdR, iI_lt, iI_n0]
  by_cases c0 : c < 0
  · rw [if_pos (Or.inl c0)] at hQ
    simp (disch := first | assumption | omega | exact isB_z | exact isB_o | exact iI_in' (by assumption) (by omega) (by omega) | exact cat_int _ | exact cat_ref _ | exact cat_null | decide) only [c0, if_true, ↓x_41_11, ↓x_41_12, up1_same, up1_ne, up1_up1, us_0, us_1, us_2, us_3, us_4, us_5, us_6, us_7, us_8, us_9, us_10, us_11, rw_zero, rw_succ, Option.toList_some, Option.toList_none, List.cons_append, List.nil_append, cat_int, cat_ref, cat_null, iI_add, iI_sub, iI_mul, iI_neg, List.length_cons, List.length_nil, ↓reduceIte, va_rf_some, exR, wiR, wkW, wkR, orR, rdR]
    exact hQ V A P e h fr.rf
  · by_cases c1 : 255 < c
    · rw [if_pos (Or.inr c1)] at hQ
      simp (disch := first | assumption | omega | exact isB_z | exact isB_o | exact iI_in' (by assumption) (by omega) (by omega) | exact cat_int _ | exact cat_ref _ | exact cat_null | decide) only [c0, c1, if_true, if_false, ↓x_41_11, ↓x_41_12, up1_same, up1_ne, up1_up1, us_0, us_1, us_2, us_3, us_4, us_5, us_6, us_7, us_8, us_9, us_10, us_11, rw_zero, rw_succ, Option.toList_some, Option.toList_none, List.cons_append, List.nil_append, cat_int, cat_ref, cat_null, iI_add, iI_sub, iI_mul, iI_neg, List.length_cons, List.length_nil, ↓reduceIte, va_rf_some, exR, wiR, wkW, wkR, orR, rdR]
      exact hQ V A P e h fr.rf
    · rw [if_neg (by omega)] at hQ
      have e1 : ¬ (S.T.length : Int) < 0 := by omega
      by_cases c2 : 120 ≤ S.T.length
      · rw [if_pos c2] at hQ
        have e2 : ¬ (S.T.length : Int) < 120 := by omega
        simp (disch := first | assumption | omega | exact isB_z | exact isB_o | exact iI_in' (by assumption) (by omega) (by omega) | exact cat_int _ | exact cat_ref _ | exact cat_null | decide) only [c0, c1, e1, e2, if_false, ↓x_41_13, ↓x_41_14, ↓x_41_17, ↓x_41_20, ↓x_41_21, ↓x_41_24, ↓x_41_26, ↓x_41_29, ↓x_41_31, up1_same, up1_ne, up1_up1, us_0, us_1, us_2, us_3, us_4, us_5, us_6, us_7, us_8, us_9, us_10, us_11, rw_zero, rw_succ, Option.toList_some, Option.toList_none, List.cons_append, List.nil_append, cat_int, cat_ref, cat_null, iI_add, iI_sub, iI_mul, iI_neg, List.length_cons, List.length_nil, ↓reduceIte, va_rf_some, exR, wiR, wkW, wkR, orR, rdR, hx, iI_lt, iI_n0]
        exact hQ V A P e h fr.rf
      · rw [if_neg c2] at hQ
        have e2 : (S.T.length : Int) < 120 := by omega
        have tn1 : ((S.T.length : Nat) : Int).toNat = S.T.length := Int.toNat_natCast _
        simp (disch := first | assumption | omega | exact isB_z | exact isB_o | exact iI_in' (by assumption) (by omega) (by omega) | exact cat_int _ | exact cat_ref _ | exact cat_null | decide) only [c0, c1, e1, e2, if_true, if_false, ↓x_41_13, ↓x_41_14, ↓x_41_17, ↓x_41_20, ↓x_41_21, ↓x_41_24, ↓x_41_26, ↓x_41_29, ↓x_41_31, ↓x_41_32, ↓x_41_33, ↓x_41_36, ↓x_41_37, ↓x_41_40, ↓x_41_41, ↓x_41_42, ↓x_41_43, ↓x_41_44, ↓x_41_47, ↓x_41_48, ↓x_41_49, ↓x_41_52, ↓x_41_53, ↓x_41_56, up1_same, up1_ne, up1_up1, us_0, us_1, us_2, us_3, us_4, us_5, us_6, us_7, us_8, us_9, us_10, us_11, rw_zero, rw_succ, Option.toList_some, Option.toList_none, List.cons_append, List.nil_append, cat_int, cat_ref, cat_null, iI_add, iI_sub, iI_mul, iI_neg, List.length_cons, List.length_nil, ↓reduceIte, va_rf_some, exR, wiR, wkW, wkR, orR, rdR, hx, iI_lt, iI_n0, iI_cl, tn1]
        refine hQ _ _ P e ⟨⟨it, ?_⟩, wiH_eq h.wi (up1_ne (by omega)) (up1_ne (by omega)) (up1_ne (by omega)) (up1_ne (by omega)), h.wo, h.ul, h.ep, h.ei, fun j hj => ?_, fun i hi => ?_, h.ip, fun j hj => ?_, fun i hi => imH_eq (h.im i hi) (up1_ne (by omega)) (by rw [up1_ne (by omega)]) (up1_ne (by omega)) (up1_ne (by omega)) (up1_ne (by omega)), ?_, fun i hi => ?_, scr_eq h.sc (fun a ha => up1_ne (by omega)), h.op⟩ ⟨fun a ha => up1_ne (by omega), fun a ha => up1_ne (by omega)⟩
        · rw [up1_same, show ((aS.mk S.X S.U S.I (S.T ++ [c])).T.length : Int) = S.T.length + 1 from by show (((S.T ++ [c]).length : Nat) : Int) = _; simp]
        · rw [up1_ne (by omega)]; exact h.er j hj
        · have := h.ep i (by have := h.ul; have hi' : i < S.U.length := hi; omega)
          exact ⟨wiH_eq (h.ew i hi).1 (up1_ne (by omega)) (up1_ne (by omega)) (up1_ne (by omega)) (up1_ne (by omega)), (h.ew i hi).2⟩
        · rw [up1_ne (by omega)]; exact h.ir j hj
        · show (S.T ++ [c]).length ≤ 120; simp; omega
        · have hi0 : i < (S.T ++ [c]).length := hi
          have hi' : i < S.T.length + 1 := by simpa using hi0
          rw [up1_same, show (aS.mk S.X S.U S.I (S.T ++ [c])).T = S.T ++ [c] from rfl]
          by_cases g : i = S.T.length
          · subst g
            rw [upd_same, getD_app_eq]
            exact ⟨rfl, by omega, by omega⟩
          · rw [upd_ne g, getD_app_lt (by omega)]
            exact h.tx i (by omega)
theorem wf_tX {X : aW} {b : Int} (hX : wf X) (h0 : 0 ≤ b) (h1 : b < X.1.length * 6) : wf (tX X b) := by
  obtain ⟨x1, x2, x3, x4⟩ := hX
  have hi : (b / 6).toNat < X.1.length := by omega
  have hv := x4 _ hi
  have hj : (5 - b % 6).toNat < 6 := by omega
  refine ⟨x1, by show (X.2.set _ _).length = _; rw [List.length_set]; exact x2, x3, fun i hi2 => ?_⟩
  show 0 ≤ (X.2.set _ _).getD i 0 ∧ (X.2.set _ _).getD i 0 < 64
  rw [gset]
  split
  · exact tn_b hv.1 hv.2 hj
  · exact x4 i hi2
theorem k_flips {b : Int} (hK : exK t) (h : RX V A P S e) (h1 : -2147483648 ≤ b ∧ b < 2147483648) (hQ : hqT t V A Q (aFlips S b)) : Call (d + 4) 46 [.ref 3, .int (iI b)] (t, V, A, P) Q := by
  obtain ⟨it, hx⟩ := h.ob
  have k0 := hK.1
  have k4 := hK.2.1.1
  have hX := h.wo.1
  unfold aFlips at hQ
  simp (disch := first | assumption | omega | exact isB_z | exact isB_o | exact iI_in' (by assumption) (by omega) (by omega) | exact cat_int _ | exact cat_ref _ | exact cat_null | decide) only [c_46, ↓x_46_0, ↓x_46_1, ↓x_46_4, ↓x_46_5, up1_same, up1_ne, up1_up1, us_0, us_1, us_2, us_3, us_4, us_5, us_6, us_7, us_8, us_9, us_10, us_11, rw_zero, rw_succ, Option.toList_some, Option.toList_none, List.cons_append, List.nil_append, cat_int, cat_ref, cat_null, iI_add, iI_sub, iI_mul, iI_neg, List.length_cons, List.length_nil, ↓reduceIte, va_rf_some, exR, wiR, wkW, wkR, orR, rdR, hx, k_hasBit k4 h.wi.1]
  by_cases c : 0 ≤ b ∧ b < S.X.1.length * 6
  · rw [if_pos c] at hQ
    simp (disch := first | assumption | omega | exact isB_z | exact isB_o | exact iI_in' (by assumption) (by omega) (by omega) | exact cat_int _ | exact cat_ref _ | exact cat_null | decide) only [c, and_self, if_true, ↓x_46_8, ↓x_46_11, ↓x_46_12, ↓x_46_13, ↓x_46_14, up1_same, up1_ne, up1_up1, us_0, us_1, us_2, us_3, us_4, us_5, us_6, us_7, us_8, us_9, us_10, us_11, rw_zero, rw_succ, Option.toList_some, Option.toList_none, List.cons_append, List.nil_append, cat_int, cat_ref, cat_null, iI_add, iI_sub, iI_mul, iI_neg, List.length_cons, List.length_nil, ↓reduceIte, va_rf_some, exR, wiR, wkW, wkR, orR, rdR, iI_eq, iI_n0]
    rw [if_neg (show ¬ (1 : Int) = 0 by omega)]
    refine k_remember hK h (fun V1 A1 P1 e1 r1 r2 => ?_)
    obtain ⟨it1, hx1⟩ := r1.ob
    simp (disch := first | assumption | omega | exact isB_z | exact isB_o | exact iI_in' (by assumption) (by omega) (by omega) | exact cat_int _ | exact cat_ref _ | exact cat_null | decide) only [↓x_46_17, ↓x_46_18, ↓x_46_21, ↓x_46_22, up1_same, up1_ne, up1_up1, us_0, us_1, us_2, us_3, us_4, us_5, us_6, us_7, us_8, us_9, us_10, us_11, rw_zero, rw_succ, Option.toList_some, Option.toList_none, List.cons_append, List.nil_append, cat_int, cat_ref, cat_null, iI_add, iI_sub, iI_mul, iI_neg, List.length_cons, List.length_nil, ↓reduceIte, va_rf_some, exR, wiR, wkW, wkR, orR, rdR, hx1]
    rw [k_turn hK.2.1 r1.wi r1.wo c.1 c.2]
    simp (disch := first | assumption | omega | exact isB_z | exact isB_o | exact iI_in' (by assumption) (by omega) (by omega) | exact cat_int _ | exact cat_ref _ | exact cat_null | decide) only [↓x_46_25, ↓x_46_26, ↓x_46_29, ↓x_46_30, up1_same, up1_ne, up1_up1, us_0, us_1, us_2, us_3, us_4, us_5, us_6, us_7, us_8, us_9, us_10, us_11, rw_zero, rw_succ, Option.toList_some, Option.toList_none, List.cons_append, List.nil_append, cat_int, cat_ref, cat_null, iI_add, iI_sub, iI_mul, iI_neg, List.length_cons, List.length_nil, ↓reduceIte, va_rf_some, exR, wiR, wkW, wkR, orR, rdR, hx1]
    have hi : (b / 6).toNat < S.X.1.length := by omega
    have hl := h.wo.2.1
    have hw : wiH V1 (up1 A1 (4 + 3) (upd (A1 (4 + 3)) (b / 6).toNat (iI (tn (S.X.2.getD (b / 6).toNat 0) (5 - b % 6).toNat)))) 4 (tX S.X b) := by
      obtain ⟨w1, w2, w3, w4⟩ := r1.wi
      refine ⟨w1, fun i hi2 => by rw [up1_ne (by omega)]; exact w2 i hi2, fun i hi2 => by rw [up1_ne (by omega)]; exact w3 i hi2, fun i hi2 => ?_⟩
      rw [up1_same]
      show _ = iI ((S.X.2.set _ _).getD i 0)
      rw [gset]
      by_cases g : i = (b / 6).toNat
      · subst g; rw [upd_same, if_pos ⟨rfl, by omega⟩]
      · rw [upd_ne g, if_neg (fun q => g q.1)]; exact w4 i hi2
    rw [k_bitAt hK.2.1 hw (wf_tX h.wo c.1 c.2) c.1 c.2]
    simp (disch := first | assumption | omega | exact isB_z | exact isB_o | exact iI_in' (by assumption) (by omega) (by omega) | exact cat_int _ | exact cat_ref _ | exact cat_null | decide) only [↓x_46_33, up1_same, up1_ne, up1_up1, us_0, us_1, us_2, us_3, us_4, us_5, us_6, us_7, us_8, us_9, us_10, us_11, rw_zero, rw_succ, Option.toList_some, Option.toList_none, List.cons_append, List.nil_append, cat_int, cat_ref, cat_null, iI_add, iI_sub, iI_mul, iI_neg, List.length_cons, List.length_nil, ↓reduceIte, va_rf_some, exR, wiR, wkW, wkR, orR, rdR]
    refine hQ _ _ P1 e1 (r1.wire hw (wf_tX h.wo c.1 c.2) (fun a _ => rfl) (fun a ha => up1_ne (by omega))) (r2.tr ⟨fun a ha => rfl, fun a ha => up1_ne (by omega)⟩)
  · rw [if_neg c] at hQ
    simp (disch := first | assumption | omega | exact isB_z | exact isB_o | exact iI_in' (by assumption) (by omega) (by omega) | exact cat_int _ | exact cat_ref _ | exact cat_null | decide) only [c, if_false, ↓x_46_8, ↓x_46_11, ↓x_46_12, up1_same, up1_ne, up1_up1, us_0, us_1, us_2, us_3, us_4, us_5, us_6, us_7, us_8, us_9, us_10, us_11, rw_zero, rw_succ, Option.toList_some, Option.toList_none, List.cons_append, List.nil_append, cat_int, cat_ref, cat_null, iI_add, iI_sub, iI_mul, iI_neg, List.length_cons, List.length_nil, ↓reduceIte, va_rf_some, exR, wiR, wkW, wkR, orR, rdR, iI_eq, iI_n0]
    exact hQ V A P e h fr.rf
end
