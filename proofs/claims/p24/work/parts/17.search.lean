/-! SEARCH -/
def sntG (X : aW) : Nat → Int := fun p => (snt X.1).getD p 0
section
variable {d : Nat} {t : mL} {V : Nat → Nat → Value} {A : Nat → Nat → Int32} {P : Nat → Nat → Option Nat} {μ : mM} {Q : Option Value → mM → Prop}
theorem ahead_loop {o w : Nat} {X : aW} {m : Nat} (hT : tabs t A) (hk : kd t (o + 5) = 2) (hKw : wiK t w) (hw : wiH V A w X) (hX : wf X) (hm : m ≤ X.1.length) (hne : w ≠ o + 5) : ∀ (k i : Nat), i + k = m → Ev (d + 6) 6 20 [.ref o, .ref w, .int (iI m), .ref (o + 5), .int (iI i)] [] (t, up1 V (o + 5) (wkW (wkG (sntG X) (-1) i).1 (wkG (sntG X) (-1) i).2), A, P) Q = Q none (t, up1 V (o + 5) (wkW (wkG (sntG X) (-1) m).1 (wkG (sntG X) (-1) m).2), A, P) := by
  obtain ⟨k1, k2, k3, k4, k5, k6, k7⟩ := hKw
  have hX1 := hX.1
  have hw1 := hw.1
  have hne' : o + 5 ≠ w := fun h => hne h.symm
  intro k
  induction k with
  | zero =>
    intro i hi
    have : i = m := by omega
    subst this
    rw [x_6_20]
    have e1 : ¬ (i : Int) < i := by omega
    simp (disch := first | assumption | omega | exact isB_z | exact isB_o | exact iI_in' (by assumption) (by omega) (by omega) | exact cat_int _ | exact cat_ref _ | exact cat_null | decide) only [↓x_6_0, ↓x_6_1, ↓x_6_4, ↓x_6_5, ↓x_6_6, ↓x_6_7, ↓x_6_8, ↓x_6_11, ↓x_6_12, ↓x_6_13, ↓x_6_14, ↓x_6_17, ↓x_6_18, ↓x_6_22, ↓x_6_23, ↓x_6_26, ↓x_6_28, ↓x_6_30, ↓x_6_33, ↓x_6_34, ↓x_6_35, ↓x_6_38, ↓x_6_40, ↓x_6_41, ↓x_6_44, ↓x_6_45, ↓x_6_48, ↓x_6_51, up1_same, up1_ne, up1_up1, us_0, us_1, us_2, us_3, us_4, us_5, us_6, us_7, us_8, us_9, us_10, us_11, rw_zero, rw_succ, Option.toList_some, Option.toList_none, List.cons_append, List.nil_append, cat_int, cat_ref, cat_null, iI_add, iI_sub, iI_mul, iI_neg, List.length_cons, List.length_nil, ↓reduceIte, va_rf_some, orR, wkW, wkR, wiR, iI_lt, e1, if_false]
  | succ k ih =>
    intro i hi
    rw [x_6_20]
    have e1 : (i : Int) < m := by omega
    have e2 : (i : Int) < 32 := by omega
    have tni : ((i : Nat) : Int).toNat = i := Int.toNat_natCast i
    have ci : ((i : Nat) : Int) + 1 = ((i + 1 : Nat) : Int) := by omega
    have e3 := snt_b hX i (by omega)
    have e4 := hw.2.2.1 i (by omega)
    simp (disch := first | assumption | omega | exact isB_z | exact isB_o | exact iI_in' (by assumption) (by omega) (by omega) | exact cat_int _ | exact cat_ref _ | exact cat_null | decide) only [↓x_6_22, ↓x_6_23, ↓x_6_26, ↓x_6_28, ↓x_6_30, ↓x_6_33, ↓x_6_34, ↓x_6_35, ↓x_6_38, ↓x_6_40, ↓x_6_41, up1_same, up1_ne, up1_up1, us_0, us_1, us_2, us_3, us_4, us_5, us_6, us_7, us_8, us_9, us_10, us_11, rw_zero, rw_succ, Option.toList_some, Option.toList_none, List.cons_append, List.nil_append, cat_int, cat_ref, cat_null, iI_add, iI_sub, iI_mul, iI_neg, List.length_cons, List.length_nil, ↓reduceIte, va_rf_some, orR, wkW, wkR, wiR, hw1, iI_lt, e1, e2, if_true, iI_cl, tni, e4]
    rw [k_takeG hT hk (up1_same _ _ _) (wkG_OK _ (Or.inl rfl) i) (by omega) (wkG_s _ (Or.inl rfl) i) e3.1 e3.2]
    simp (disch := first | assumption | omega | exact isB_z | exact isB_o | exact iI_in' (by assumption) (by omega) (by omega) | exact cat_int _ | exact cat_ref _ | exact cat_null | decide) only [↓x_6_44, ↓x_6_45, ↓x_6_48, up1_same, up1_ne, up1_up1, us_0, us_1, us_2, us_3, us_4, us_5, us_6, us_7, us_8, us_9, us_10, us_11, rw_zero, rw_succ, Option.toList_some, Option.toList_none, List.cons_append, List.nil_append, cat_int, cat_ref, cat_null, iI_add, iI_sub, iI_mul, iI_neg, List.length_cons, List.length_nil, ↓reduceIte, va_rf_some, orR, wkW, wkR, wiR, ci]
    exact ih (i + 1) (by omega)
theorem k_walkAhead {o w : Nat} {X : aW} {n l : Int} {m : Nat} (hT : tabs t A) (hK : orK t o) (hP : orP P o) (ho : V o = orR o n l) (hs : ∃ s W, V (o + 5) = wkW s W) (hKw : wiK t w) (hw : wiH V A w X) (hX : wf X) (hm : m ≤ X.1.length) (hne : w ≠ o + 5) : Call (d + 7) 6 [.ref o, .ref w, .int (iI m)] (t, V, A, P) Q = Q none (t, up1 V (o + 5) (wkW (wkG (sntG X) (-1) m).1 (wkG (sntG X) (-1) m).2), A, P) := by
  obtain ⟨k1, k2, k3, k4, k5, k6, k7, k8, k9, k10⟩ := hK
  have kw : kd t (o + 5) = 2 := k10 0 (by omega)
  have pw : P (o + 1) 0 = some (o + 5) := hP 0 (by omega)
  simp (disch := first | assumption | omega | exact isB_z | exact isB_o | exact iI_in' (by assumption) (by omega) (by omega) | exact cat_int _ | exact cat_ref _ | exact cat_null | decide) only [c_6, ↓x_6_0, ↓x_6_1, ↓x_6_4, ↓x_6_5, ↓x_6_6, ↓x_6_7, ↓x_6_8, ↓x_6_11, ↓x_6_12, ↓x_6_13, ↓x_6_14, ↓x_6_17, ↓x_6_18, up1_same, up1_ne, up1_up1, us_0, us_1, us_2, us_3, us_4, us_5, us_6, us_7, us_8, us_9, us_10, us_11, rw_zero, rw_succ, Option.toList_some, Option.toList_none, List.cons_append, List.nil_append, cat_int, cat_ref, cat_null, iI_add, iI_sub, iI_mul, iI_neg, List.length_cons, List.length_nil, ↓reduceIte, va_rf_some, orR, wkW, wkR, wiR, ho, iI_cl, Int.reduceToNat, pw, k_startG (g := sntG X) kw hs]
  exact ahead_loop hT kw hKw hw hX hm hne m 0 (by omega)
def lastK (X : aW) (n : Nat) : Nat → Int := fun i => X.1.getD (X.1.length - n + i) 0
theorem kinds_loop {D o w n : Nat} {X : aW} {l : Int} {A0 : Nat → Nat → Int32} (hK : orK t o) (ho : V o = orR o n l) (hKw : wiK t w) (hw : wiH V A0 w X) (hX : wf X) (hn : n ≤ 6) (hm : n ≤ X.1.length) (hne : w + 1 ≠ o + 2) (hQ : ∀ A' : Nat → Nat → Int32, (∀ j : Nat, j < n → A' (o + 2) j = iI (lastK X n j)) → (∀ a, a ≠ o + 2 → A' a = A0 a) → Ev D 5 85 [.ref o, .ref w, .int (iI n), .int (iI (X.1.length - n : Nat)), .int (iI n)] [] (t, V, A', P) Q) :
    ∀ (k i : Nat) (A : Nat → Nat → Int32), i + k = n → (∀ j : Nat, j < i → A (o + 2) j = iI (lastK X n j)) → (∀ a, a ≠ o + 2 → A a = A0 a) → Ev D 5 48 [.ref o, .ref w, .int (iI n), .int (iI (X.1.length - n : Nat)), .int (iI i)] [] (t, V, A, P) Q := by
  obtain ⟨k1, k2, k3, k4, k5, k6, k7, k8, k9, k10⟩ := hK
  obtain ⟨w1, w2, w3, w4, w5, w6, w7⟩ := hKw
  have hX1 := hX.1
  have hw1 := hw.1
  intro k
  induction k with
  | zero =>
    intro i A hi h1 h2
    have : i = n := by omega
    subst this
    rw [x_5_48]
    have e1 : ¬ (i : Int) < i := by omega
    simp (disch := first | assumption | omega | exact isB_z | exact isB_o | exact iI_in' (by assumption) (by omega) (by omega) | exact cat_int _ | exact cat_ref _ | exact cat_null | decide) only [x_5_50, x_5_51, up1_same, up1_ne, up1_up1, us_0, us_1, us_2, us_3, us_4, us_5, us_6, us_7, us_8, us_9, us_10, us_11, rw_zero, rw_succ, Option.toList_some, Option.toList_none, List.cons_append, List.nil_append, cat_int, cat_ref, cat_null, iI_add, iI_sub, iI_mul, iI_neg, List.length_cons, List.length_nil, ↓reduceIte, va_rf_some, iI_lt, e1, if_false]
    exact hQ A h1 h2
  | succ k ih =>
    intro i A hi h1 h2
    rw [x_5_48]
    have e1 : (i : Int) < n := by omega
    obtain ⟨p, hp⟩ : ∃ p, p = X.1.length - n := ⟨_, rfl⟩
    have hp1 : p + n = X.1.length := by omega
    have e2 : (p : Int) + i < 32 := by omega
    have tni : ((i : Nat) : Int).toNat = i := Int.toNat_natCast i
    have ci : ((i : Nat) : Int) + 1 = ((i + 1 : Nat) : Int) := by omega
    have cp : (p : Int) + (i : Int) = ((p + i : Nat) : Int) := by omega
    have tnp : ((p + i : Nat) : Int).toNat = p + i := Int.toNat_natCast _
    have e4 : A (w + 1) (p + i) = iI (X.1.getD (p + i) 0) := by rw [h2 _ hne]; exact hw.2.1 (p + i) (by omega)
    rw [← hp] at ih hQ ⊢
    rw [cp] at e2
    have e5 : (0 : Int) ≤ ((p + i : Nat) : Int) ∧ ((p + i : Nat) : Int) < (32 : Nat) ∧ ((p + i : Nat) : Int) < 2147483648 := by omega
    simp (disch := first | assumption | omega | exact isB_z | exact isB_o | exact iI_in' (by assumption) (by omega) (by omega) | exact cat_int _ | exact cat_ref _ | exact cat_null | decide) only [↓x_5_50, ↓x_5_51, ↓x_5_54, ↓x_5_55, ↓x_5_57, ↓x_5_58, ↓x_5_60, up1_same, up1_ne, up1_up1, us_0, us_1, us_2, us_3, us_4, us_5, us_6, us_7, us_8, us_9, us_10, us_11, rw_zero, rw_succ, Option.toList_some, Option.toList_none, List.cons_append, List.nil_append, cat_int, cat_ref, cat_null, iI_add, iI_sub, iI_mul, iI_neg, List.length_cons, List.length_nil, ↓reduceIte, va_rf_some, orR, wkW, wkR, wiR, iI_lt, e1, e2, if_true, cp]
    simp (disch := first | assumption | omega | exact isB_z | exact isB_o | exact iI_in' (by assumption) (by omega) (by omega) | exact cat_int _ | exact cat_ref _ | exact cat_null | decide) only [↓x_5_63, ↓x_5_64, ↓x_5_67, ↓x_5_69, ↓x_5_70, ↓x_5_73, ↓x_5_74, ↓x_5_76, ↓x_5_77, ↓x_5_78, ↓x_5_79, ↓x_5_82, up1_same, up1_ne, up1_up1, us_0, us_1, us_2, us_3, us_4, us_5, us_6, us_7, us_8, us_9, us_10, us_11, rw_zero, rw_succ, Option.toList_some, Option.toList_none, List.cons_append, List.nil_append, cat_int, cat_ref, cat_null, iI_add, iI_sub, iI_mul, iI_neg, List.length_cons, List.length_nil, ↓reduceIte, va_rf_some, orR, wkW, wkR, wiR, ho, hw1, iI_cl, cp, tni, tnp, e4, ci]
    refine ih (i + 1) _ (by omega) (fun j hj => ?_) (fun a ha => ?_)
    · rw [up1_same]
      by_cases c : j = i
      · subst c; rw [upd_same]; unfold lastK; rw [← hp]
      · rw [upd_ne c]; exact h1 j (by omega)
    · rw [up1_ne ha]; exact h2 a ha
/-- what a search finds -/
def srcF (X : aW) (n : Nat) (b : Nat → Int32) : (Nat → Int32) × Int := arrF n (lastK X n) n [] 0 (wkG (sntG X) (-1) (X.1.length - n)) (b, 1000)
set_option maxHeartbeats 400000 in
theorem k_search {o w n : Nat} {X : aW} {n0 l0 : Int} (hT : tabs t A) (hK : orK t o) (hP : orP P o) (h1 : 1 < o) (ho : V o = orR o n0 l0) (hs : ∀ j, j < 7 → ∃ s W, V (o + 5 + j) = wkW s W) (hKw : wiK t w) (hw : wiH V A w X) (hX : wf X) (hn0 : 1 ≤ n) (hn : n ≤ 6) (hm : n ≤ X.1.length) (hne : w + 3 < o ∨ o + 12 ≤ w)
    (hQ : ∀ (V' : Nat → Nat → Value) (A' : Nat → Nat → Int32), V' o = orR o n (srcF X n (A (o + 4))).2 → (∀ i : Nat, i < n → A' (o + 4) i = (srcF X n (A (o + 4))).1 i) → (∀ j, j < 7 → ∃ s W, V' (o + 5 + j) = wkW s W) → (∀ a, ¬ (o ≤ a ∧ a < o + 12) → V' a = V a) → (∀ a, ¬ (o + 2 ≤ a ∧ a ≤ o + 4) → A' a = A a) → Q none (t, V', A', P)) : Call (d + n + 8) 5 [.ref o, .ref w, .int (iI n)] (t, V, A, P) Q := by
  have hK' := hK
  obtain ⟨k1, k2, k3, k4, k5, k6, k7, k8, k9, k10⟩ := hK
  have hKw' := hKw
  obtain ⟨w1, w2, w3, w4, w5, w6, w7⟩ := hKw
  have hX1 := hX.1
  have hw1 := hw.1
  have hwo : w ≠ o := by omega
  have hk : ∀ i : Nat, i < n → 0 ≤ lastK X n i ∧ lastK X n i < 34 := fun i hi => hX.2.2.1 _ (by omega)
  have e1 : ¬ (n : Int) < 1 := by omega
  have e2 : ¬ (6 : Int) < n := by omega
  have e3 : ¬ (X.1.length : Int) < n := by omega
  have e4 : (X.1.length : Int) - n = ((X.1.length - n : Nat) : Int) := by omega
  simp (disch := first | assumption | omega | exact isB_z | exact isB_o | exact iI_in' (by assumption) (by omega) (by omega) | exact cat_int _ | exact cat_ref _ | exact cat_null | decide) only [c_5, ↓x_5_0, ↓x_5_1, ↓x_5_2, ↓x_5_5, ↓x_5_6, ↓x_5_8, ↓x_5_11, ↓x_5_12, ↓x_5_13, up1_same, up1_ne, up1_up1, us_0, us_1, us_2, us_3, us_4, us_5, us_6, us_7, us_8, us_9, us_10, us_11, rw_zero, rw_succ, Option.toList_some, Option.toList_none, List.cons_append, List.nil_append, cat_int, cat_ref, cat_null, iI_add, iI_sub, iI_mul, iI_neg, List.length_cons, List.length_nil, ↓reduceIte, va_rf_some, orR, wkW, wkR, wiR, hw1, iI_lt, e1, e2, if_false]
  simp (disch := first | assumption | omega | exact isB_z | exact isB_o | exact iI_in' (by assumption) (by omega) (by omega) | exact cat_int _ | exact cat_ref _ | exact cat_null | decide) only [↓x_5_16, ↓x_5_19, ↓x_5_20, ↓x_5_21, ↓x_5_24, ↓x_5_25, ↓x_5_26, ↓x_5_27, ↓x_5_28, ↓x_5_29, ↓x_5_32, ↓x_5_33, ↓x_5_36, ↓x_5_39, ↓x_5_40, ↓x_5_41, ↓x_5_42, up1_same, up1_ne, up1_up1, us_0, us_1, us_2, us_3, us_4, us_5, us_6, us_7, us_8, us_9, us_10, us_11, rw_zero, rw_succ, Option.toList_some, Option.toList_none, List.cons_append, List.nil_append, cat_int, cat_ref, cat_null, iI_add, iI_sub, iI_mul, iI_neg, List.length_cons, List.length_nil, ↓reduceIte, va_rf_some, orR, wkW, wkR, wiR, ho, hw1, iI_lt, e3, if_false, iI_sub, e4]
  have hw' : wiH (up1 V o (orR o n 1000)) A w X := by
    obtain ⟨q1, q2, q3, q4⟩ := hw
    exact ⟨by rw [up1_ne hwo]; exact q1, q2, q3, q4⟩
  rw [k_walkAhead (d := d + n) (n := n) (l := 1000) hT hK' hP (up1_same _ _ _) (by rw [up1_ne (by omega)]; exact hs 0 (by omega)) hKw' hw' hX (by omega) (by omega)]
  simp (disch := first | assumption | omega | exact isB_z | exact isB_o | exact iI_in' (by assumption) (by omega) (by omega) | exact cat_int _ | exact cat_ref _ | exact cat_null | decide) only [↓x_5_45, ↓x_5_46, up1_same, up1_ne, up1_up1, us_0, us_1, us_2, us_3, us_4, us_5, us_6, us_7, us_8, us_9, us_10, us_11, rw_zero, rw_succ, Option.toList_some, Option.toList_none, List.cons_append, List.nil_append, cat_int, cat_ref, cat_null, iI_add, iI_sub, iI_mul, iI_neg, List.length_cons, List.length_nil, ↓reduceIte, va_rf_some, orR, wkW, wkR, wiR]
  have hw2 : wiH (up1 (up1 V o (orR o n 1000)) (o + 5) (wkW (wkG (sntG X) (-1) (X.1.length - n)).1 (wkG (sntG X) (-1) (X.1.length - n)).2)) A w X := by
    obtain ⟨q1, q2, q3, q4⟩ := hw'
    exact ⟨by rw [up1_ne (by omega)]; exact q1, q2, q3, q4⟩
  refine kinds_loop (l := 1000) hK' (by rw [up1_ne (by omega), up1_same]) hKw' hw2 hX hn hm (by omega) (fun A1 a1 a2 => ?_) n 0 A (by omega) (fun j hj => absurd hj (by omega)) (fun a _ => rfl)
  simp (disch := first | assumption | omega | exact isB_z | exact isB_o | exact iI_in' (by assumption) (by omega) (by omega) | exact cat_int _ | exact cat_ref _ | exact cat_null | decide) only [↓x_5_85, ↓x_5_86, ↓x_5_87, ↓x_5_88, up1_same, up1_ne, up1_up1, us_0, us_1, us_2, us_3, us_4, us_5, us_6, us_7, us_8, us_9, us_10, us_11, rw_zero, rw_succ, Option.toList_some, Option.toList_none, List.cons_append, List.nil_append, cat_int, cat_ref, cat_null, iI_add, iI_sub, iI_mul, iI_neg, List.length_cons, List.length_nil, ↓reduceIte, va_rf_some, orR, wkW, wkR, wiR]
  have hT' : tabs t A1 := by
    obtain ⟨q1, q2, q3, q4, q5, q6⟩ := hT
    exact ⟨q1, q2, q3, q4, fun j => by rw [a2 0 (by omega)]; exact q5 j, fun j => by rw [a2 1 (by omega)]; exact q6 j⟩
  have hws : ∀ j, j < 7 → 0 < j → ∃ s W, (up1 (up1 V o (orR o n 1000)) (o + 5) (wkW (wkG (sntG X) (-1) (X.1.length - n)).1 (wkG (sntG X) (-1) (X.1.length - n)).2)) (o + 5 + j) = wkW s W := fun j hj h0 => by
    rw [up1_ne (by omega), up1_ne (by omega)]; exact hs j hj
  refine k_arrange hK' hP hn hk n 0 [] 0 (6 * (X.1.length - n : Nat)) _ _ A1 (A (o + 4), 1000) _ (by omega) rfl (by omega) (by omega) (wkG_OK _ (Or.inl rfl) _) (by omega) (wkG_s _ (Or.inl rfl) _) hT' (by rw [up1_ne (by omega), up1_same]) (up1_same _ _ _) hws a1 (fun i hi => absurd hi (by omega)) (fun i hi => by rw [a2 _ (by omega)]) (show (0 : Int) ≤ 1000 by decide) (Int.le_refl _) (fun V' A' r1 r2 r3 => ?_)
  obtain ⟨f1, f2, f3, f4⟩ := r3
  simp (disch := first | assumption | omega | exact isB_z | exact isB_o | exact iI_in' (by assumption) (by omega) (by omega) | exact cat_int _ | exact cat_ref _ | exact cat_null | decide) only [↓x_5_91, up1_same, up1_ne, up1_up1, us_0, us_1, us_2, us_3, us_4, us_5, us_6, us_7, us_8, us_9, us_10, us_11, rw_zero, rw_succ, Option.toList_some, Option.toList_none, List.cons_append, List.nil_append, cat_int, cat_ref, cat_null, iI_add, iI_sub, iI_mul, iI_neg, List.length_cons, List.length_nil, ↓reduceIte, va_rf_some, orR, wkW, wkR, wiR]
  refine hQ V' A' r1 r2 (fun j hj => ?_) (fun a ha => ?_) (fun a ha => ?_)
  · by_cases c : j = 0
    · subst c
      exact ⟨_, _, by rw [f1 _ (by omega) (by omega)]; exact up1_same _ _ _⟩
    · exact f2 j hj (by omega) (hws j hj (by omega))
  · rw [f1 a (by omega) (by omega), up1_ne (by omega), up1_ne (by omega)]
  · rw [f3 a (by omega) (by omega), a2 a (by omega)]
end
