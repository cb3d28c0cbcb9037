/-! THE MODEL: tells -/
theorem fpF_l (T : List Int) : ∀ (n : Nat) (due : Int) (i : Nat) (D : List Int), D.length ≤ 40 → (fpF T n due i D).2.length ≤ 40 := by
  intro n
  induction n with
  | zero => intro due i D h; exact h
  | succ n ih =>
    intro due i D h
    rw [fpF_s]
    have := (afT_b T due i (tkE T i) h).2
    split
    · split
      · exact ih _ _ _ h
      · split
        · exact this
        · exact ih _ _ _ this
    · exact h
section
variable {d : Nat} {t : mL} {V : Nat → Nat → Value} {A : Nat → Nat → Int32} {P : Nat → Nat → Option Nat} {μ : mM} {Q : Option Value → mM → Prop} {S : aS} {g : Nat → Int} {T : List Int}
theorem k_readsText (hK : mK t) (hT : txH g A T) (hQ : ∀ (g' : Nat → Int) (A' : Nat → Nat → Int32), rtF g g' → (∀ a, a ≠ 68 → A' a = A a) → g' 17 = (if (fpT T).1 = -1 then -9 else (fpT T).1) → ((fpT T).1 = -1 → g' 9 = (fpT T).2.length ∧ ∀ j : Nat, j < (fpT T).2.length → A' 68 j = iI ((fpT T).2.getD j 0)) → Q none (t, up1 V 62 (mdR g'), A', P)) : Call (d + 5) 90 [.ref 62] (t, up1 V 62 (mdR g), A, P) Q := by
  have m0 := hK.1
  obtain ⟨g1, e1, e2, e3⟩ := wrap16 g
  have hT1 : txH g1 A T := ⟨(e2 7 (by omega)).trans hT.1, hT.2⟩
  rw [← e1]
  simp (disch := first | assumption | omega | exact isB_z | exact isB_o | exact iI_in' (by assumption) (by omega) (by omega) | exact cat_int _ | exact cat_ref _ | exact cat_null | decide) only [c_90, ↓x_90_0, ↓x_90_1, ↓x_90_3, ↓x_90_6, ↓x_90_7, ↓x_90_8, ↓x_90_11, ↓x_90_12, ↓x_90_13, ↓x_90_16, ↓x_90_17, up1_same, up1_ne, up1_up1, us_0, us_1, us_2, us_3, us_4, us_5, us_6, us_7, us_8, us_9, us_10, us_11, rw_zero, rw_succ, Option.toList_some, Option.toList_none, List.cons_append, List.nil_append, cat_int, cat_ref, cat_null, iI_add, iI_sub, iI_mul, iI_neg, List.length_cons, List.length_nil, ↓reduceIte, va_rf_some, Int.reduceToNat, md_0, md_1, md_2, md_3, md_4, md_5, md_6, md_7, md_8, md_9, md_10, md_11, md_12, md_13, md_14, md_15, md_16, md_17, md_18, md_19, md_20, md_21, md_22, md_23, md_24, md_25, md_26, md_27, md_28, md_29, md_30, md_31, mu_0, mu_3, mu_7, mu_9, mu_12, mu_13, mu_14, mu_15, mu_16, mu_17, mu_18, mu_23, mu_24, mu_26, mu_27, mu_28, mu_29, i10, iI_eq, iI_lt, iI_cl, if_true, if_false, and_self]
  have hT2 : txH (up1 (up1 (up1 g1 17 (-9)) 13 0) 9 0) A T := ⟨(up1_ne (by omega)).trans ((up1_ne (by omega)).trans ((up1_ne (by omega)).trans hT1.1)), hT.2⟩
  refine k_advances (i := 0) hK hT2 (Nat.zero_le _) (by rw [up1_ne (by omega), up1_same]; rfl) (by rw [up1_ne (by omega), up1_ne (by omega), up1_ne (by omega)]; exact e3) (fun g2 q1 S2 => ?_)
  have hb := sk_b (T := T) (i := 0) (Nat.zero_le _)
  simp only [Option.toList_none, List.nil_append]
  refine rt_loop (E := fpT T) (g0 := g) (A0 := A) hK hT hQ (T.length + 1) (sk T 0) [] g2 A _ _ (by omega) hb.2.1 hb.2.2 S2 ?_ ?_ (fun j hj => absurd hj (Nat.not_lt_zero _)) (Nat.zero_le _) ?_ (fun k h1 h2 => ?_) (fun _ _ => rfl) rfl rfl
  · rw [q1 17 (by omega), up1_ne (by omega), up1_ne (by omega), up1_same]
  · rw [q1 9 (by omega), up1_same]; rfl
  · rw [← fpG_sk]; rfl
  · rw [q1 k (by omega), up1_ne h1, up1_ne (by omega), up1_ne (by omega)]; exact e2 k (by omega)
theorem tells_loopM {D : List Int} {XE : aW} {A0 : Nat → Nat → Int32} (hK : mK t) (hk : ∀ j : Nat, j < D.length → 0 ≤ D.getD j 0 ∧ D.getD j 0 < 34) (h9 : g 9 = D.length) (hl : D.length ≤ 40) (hQ : ∀ A' : Nat → Nat → Int32, mH (A' 63) XE → (∀ a, a ≠ 63 → A' a = A0 a) → Q (some (.int (iI D.length))) (t, up1 V 62 (mdR (up1 g 7 0)), A', P)) : ∀ (r : List Int) (j : Nat) (X : aW) (A : Nat → Nat → Int32), j + r.length = D.length → (∀ q : Nat, q < r.length → D.getD (j + q) 0 = r.getD q 0) → mH (A 63) X → wf X → X.1.length + r.length ≤ 32 → snA X r = XE → (∀ j : Nat, j < D.length → A 68 j = iI (D.getD j 0)) → (∀ a, a ≠ 63 → A a = A0 a) → Ev (d + 4) 91 51 [.ref 62, .int (iI j)] [] (t, up1 V 62 (mdR g), A, P) Q := by
  have hK' := hK
  obtain ⟨m0, ⟨m1, l1⟩, ⟨m2, l2⟩, ⟨m3, l3⟩, ⟨m4, l4⟩, ⟨m5, l5⟩, ⟨m6, l6⟩, ⟨m7, l7⟩, ⟨m8, l8⟩, ⟨m9, l9⟩, ⟨m10, l10⟩, ⟨m11, l11⟩, ⟨m12, l12⟩, ⟨m13, l13⟩, ⟨m14, l14⟩, m15, l15⟩ := hK
  intro r
  induction r with
  | nil =>
    intro j X A hj hq hm hX hn hE hD hA
    have : j = D.length := by simpa using hj
    subst this
    rw [x_91_51]
    simp (disch := first | assumption | omega | exact isB_z | exact isB_o | exact iI_in' (by assumption) (by omega) (by omega) | exact cat_int _ | exact cat_ref _ | exact cat_null | decide) only [↓x_91_52, ↓x_91_53, ↓x_91_56, up1_same, up1_ne, up1_up1, us_0, us_1, us_2, us_3, us_4, us_5, us_6, us_7, us_8, us_9, us_10, us_11, rw_zero, rw_succ, Option.toList_some, Option.toList_none, List.cons_append, List.nil_append, cat_int, cat_ref, cat_null, iI_add, iI_sub, iI_mul, iI_neg, List.length_cons, List.length_nil, ↓reduceIte, va_rf_some, Int.reduceToNat, md_0, md_1, md_2, md_3, md_4, md_5, md_6, md_7, md_8, md_9, md_10, md_11, md_12, md_13, md_14, md_15, md_16, md_17, md_18, md_19, md_20, md_21, md_22, md_23, md_24, md_25, md_26, md_27, md_28, md_29, md_30, md_31, mu_0, mu_3, mu_7, mu_9, mu_12, mu_13, mu_14, mu_15, mu_16, mu_17, mu_18, mu_23, mu_24, mu_26, mu_27, mu_28, mu_29, i10, iI_eq, iI_lt, iI_cl, if_true, if_false, and_self, h9]
    simp
    simp (disch := first | assumption | omega | exact isB_z | exact isB_o | exact iI_in' (by assumption) (by omega) (by omega) | exact cat_int _ | exact cat_ref _ | exact cat_null | decide) only [↓x_91_76, ↓x_91_77, ↓x_91_78, ↓x_91_81, ↓x_91_82, ↓x_91_85, up1_same, up1_ne, up1_up1, us_0, us_1, us_2, us_3, us_4, us_5, us_6, us_7, us_8, us_9, us_10, us_11, rw_zero, rw_succ, Option.toList_some, Option.toList_none, List.cons_append, List.nil_append, cat_int, cat_ref, cat_null, iI_add, iI_sub, iI_mul, iI_neg, List.length_cons, List.length_nil, ↓reduceIte, va_rf_some, Int.reduceToNat, md_0, md_1, md_2, md_3, md_4, md_5, md_6, md_7, md_8, md_9, md_10, md_11, md_12, md_13, md_14, md_15, md_16, md_17, md_18, md_19, md_20, md_21, md_22, md_23, md_24, md_25, md_26, md_27, md_28, md_29, md_30, md_31, mu_0, mu_3, mu_7, mu_9, mu_12, mu_13, mu_14, mu_15, mu_16, mu_17, mu_18, mu_23, mu_24, mu_26, mu_27, mu_28, mu_29, i10, iI_eq, iI_lt, iI_cl, if_true, if_false, and_self, h9]
    exact hQ A (by rw [← hE]; exact hm) hA
  | cons k r ih =>
    intro j X A hj hq hm hX hn hE hD hA
    simp only [List.length_cons] at hj hn
    have e : (j : Int) < D.length := by omega
    have tn1 : ((j : Nat) : Int).toNat = j := Int.toNat_natCast _
    have ci : (j : Int) + 1 = ((j + 1 : Nat) : Int) := by omega
    have hdj := hD j (by omega)
    have hkj := hk j (by omega)
    have hq0 := hq 0 (by simp)
    simp only [Nat.add_zero, List.getD_cons_zero] at hq0
    rw [hq0] at hdj hkj
    rw [x_91_51]
    simp (disch := first | assumption | omega | exact isB_z | exact isB_o | exact iI_in' (by assumption) (by omega) (by omega) | exact cat_int _ | exact cat_ref _ | exact cat_null | decide) only [↓x_91_52, ↓x_91_53, ↓x_91_56, ↓x_91_59, ↓x_91_60, ↓x_91_61, ↓x_91_64, ↓x_91_65, up1_same, up1_ne, up1_up1, us_0, us_1, us_2, us_3, us_4, us_5, us_6, us_7, us_8, us_9, us_10, us_11, rw_zero, rw_succ, Option.toList_some, Option.toList_none, List.cons_append, List.nil_append, cat_int, cat_ref, cat_null, iI_add, iI_sub, iI_mul, iI_neg, List.length_cons, List.length_nil, ↓reduceIte, va_rf_some, Int.reduceToNat, md_0, md_1, md_2, md_3, md_4, md_5, md_6, md_7, md_8, md_9, md_10, md_11, md_12, md_13, md_14, md_15, md_16, md_17, md_18, md_19, md_20, md_21, md_22, md_23, md_24, md_25, md_26, md_27, md_28, md_29, md_30, md_31, mu_0, mu_3, mu_7, mu_9, mu_12, mu_13, mu_14, mu_15, mu_16, mu_17, mu_18, mu_23, mu_24, mu_26, mu_27, mu_28, mu_29, i10, iI_eq, iI_lt, iI_cl, if_true, if_false, and_self, h9, e, tn1, hdj]
    simp (disch := first | assumption | omega | exact isB_z | exact isB_o | exact iI_in' (by assumption) (by omega) (by omega) | exact cat_int _ | exact cat_ref _ | exact cat_null | decide) only [↓x_91_66, up1_same, up1_ne, up1_up1, us_0, us_1, us_2, us_3, us_4, us_5, us_6, us_7, us_8, us_9, us_10, us_11, rw_zero, rw_succ, Option.toList_some, Option.toList_none, List.cons_append, List.nil_append, cat_int, cat_ref, cat_null, iI_add, iI_sub, iI_mul, iI_neg, List.length_cons, List.length_nil, ↓reduceIte, va_rf_some, Int.reduceToNat, md_0, md_1, md_2, md_3, md_4, md_5, md_6, md_7, md_8, md_9, md_10, md_11, md_12, md_13, md_14, md_15, md_16, md_17, md_18, md_19, md_20, md_21, md_22, md_23, md_24, md_25, md_26, md_27, md_28, md_29, md_30, md_31, mu_0, mu_3, mu_7, mu_9, mu_12, mu_13, mu_14, mu_15, mu_16, mu_17, mu_18, mu_23, mu_24, mu_26, mu_27, mu_28, mu_29, i10, iI_eq, iI_lt, iI_cl, if_true, if_false, and_self]
    refine k_sent hK' hX hm (by omega) hkj.1 hkj.2 (fun A1 q1 q2 => ?_)
    simp (disch := first | assumption | omega | exact isB_z | exact isB_o | exact iI_in' (by assumption) (by omega) (by omega) | exact cat_int _ | exact cat_ref _ | exact cat_null | decide) only [↓x_91_69, ↓x_91_70, ↓x_91_73, up1_same, up1_ne, up1_up1, us_0, us_1, us_2, us_3, us_4, us_5, us_6, us_7, us_8, us_9, us_10, us_11, rw_zero, rw_succ, Option.toList_some, Option.toList_none, List.cons_append, List.nil_append, cat_int, cat_ref, cat_null, iI_add, iI_sub, iI_mul, iI_neg, List.length_cons, List.length_nil, ↓reduceIte, va_rf_some, Int.reduceToNat, md_0, md_1, md_2, md_3, md_4, md_5, md_6, md_7, md_8, md_9, md_10, md_11, md_12, md_13, md_14, md_15, md_16, md_17, md_18, md_19, md_20, md_21, md_22, md_23, md_24, md_25, md_26, md_27, md_28, md_29, md_30, md_31, mu_0, mu_3, mu_7, mu_9, mu_12, mu_13, mu_14, mu_15, mu_16, mu_17, mu_18, mu_23, mu_24, mu_26, mu_27, mu_28, mu_29, i10, iI_eq, iI_lt, iI_cl, if_true, if_false, and_self, ci]
    refine ih (j + 1) (sX X k) A1 (by omega) (fun q hqr => ?_) q1 (wf_send hX (by omega) hkj.1 hkj.2) ?_ hE (fun i hi => by rw [q2 68 (by omega)]; exact hD i hi) (fun a ha => (q2 a ha).trans (hA a ha))
    · have := hq (q + 1) (by simp; omega)
      simp only [List.getD_cons_succ] at this
      rw [← this]
      congr 1
      omega
    · have : (sX X k).1.length = X.1.length + 1 := by simp [sX]
      omega
theorem km_tells (hK : mK t) (hS : wfS S) (h : RM g A S) (hQ : hqM t V A P Q (aTells S)) : Call (d + 6) 91 [.ref 62] (t, up1 V 62 (mdR g), A, P) Q := by
  have hK' := hK
  obtain ⟨m0, ⟨m1, l1⟩, ⟨m2, l2⟩, ⟨m3, l3⟩, ⟨m4, l4⟩, ⟨m5, l5⟩, ⟨m6, l6⟩, ⟨m7, l7⟩, ⟨m8, l8⟩, ⟨m9, l9⟩, ⟨m10, l10⟩, ⟨m11, l11⟩, ⟨m12, l12⟩, ⟨m13, l13⟩, ⟨m14, l14⟩, m15, l15⟩ := hK
  have hT : txH (up1 g 0 0) A S.T := ⟨(up1_ne (by omega)).trans h.ty, hS.tl, fun i hi => ⟨h.tx i hi, hS.tx i hi⟩⟩
  have hfb := fpF_b S.T S.T.length 0 0 []
  have hfk := fpT_k S.T
  have hfb' : -1 ≤ (fpT S.T).1 ∧ (fpT S.T).1 ≤ S.T.length := hfb
  have htl := hS.tl
  have hX := hS.wo.1
  unfold aTells at hQ
  simp (disch := first | assumption | omega | exact isB_z | exact isB_o | exact iI_in' (by assumption) (by omega) (by omega) | exact cat_int _ | exact cat_ref _ | exact cat_null | decide) only [c_91, ↓x_91_0, ↓x_91_1, ↓x_91_2, ↓x_91_5, ↓x_91_6, up1_same, up1_ne, up1_up1, us_0, us_1, us_2, us_3, us_4, us_5, us_6, us_7, us_8, us_9, us_10, us_11, rw_zero, rw_succ, Option.toList_some, Option.toList_none, List.cons_append, List.nil_append, cat_int, cat_ref, cat_null, iI_add, iI_sub, iI_mul, iI_neg, List.length_cons, List.length_nil, ↓reduceIte, va_rf_some, Int.reduceToNat, md_0, md_1, md_2, md_3, md_4, md_5, md_6, md_7, md_8, md_9, md_10, md_11, md_12, md_13, md_14, md_15, md_16, md_17, md_18, md_19, md_20, md_21, md_22, md_23, md_24, md_25, md_26, md_27, md_28, md_29, md_30, md_31, mu_0, mu_3, mu_7, mu_9, mu_12, mu_13, mu_14, mu_15, mu_16, mu_17, mu_18, mu_23, mu_24, mu_26, mu_27, mu_28, mu_29, i10, iI_eq, iI_lt, iI_cl, if_true, if_false, and_self]
  refine k_readsText hK' hT (fun g1 A1 q1 q2 q3 q4 => ?_)
  have r1 : RM g1 A1 S := h.th.keep' (q1 3 (by omega) (by omega)) (q1 7 (by omega) (by omega)) (q1 12 (by omega) (by omega)) (fun a _ _ ha => q2 a ha)
  by_cases c : (fpT S.T).1 = -1
  · obtain ⟨h9, hD⟩ := q4 c
    rw [if_pos c] at q3
    rw [if_neg (by omega)] at hQ
    have a0 := r1.wi.h0
    obtain ⟨D, hDe⟩ : ∃ D, D = (fpT S.T).2 := ⟨_, rfl⟩
    rw [← hDe] at hQ h9 hD hfk
    have hDl : D.length ≤ 40 := by rw [hDe]; exact fpF_l S.T _ _ _ _ (by simp)
    simp (disch := first | assumption | omega | exact isB_z | exact isB_o | exact iI_in' (by assumption) (by omega) (by omega) | exact cat_int _ | exact cat_ref _ | exact cat_null | decide) only [↓x_91_9, ↓x_91_10, ↓x_91_13, ↓x_91_15, ↓x_91_18, ↓x_91_20, ↓x_91_21, ↓x_91_24, ↓x_91_25, ↓x_91_26, ↓x_91_27, ↓x_91_30, ↓x_91_31, ↓x_91_32, ↓x_91_33, ↓x_91_36, ↓x_91_37, ↓x_91_39, up1_same, up1_ne, up1_up1, us_0, us_1, us_2, us_3, us_4, us_5, us_6, us_7, us_8, us_9, us_10, us_11, rw_zero, rw_succ, Option.toList_some, Option.toList_none, List.cons_append, List.nil_append, cat_int, cat_ref, cat_null, iI_add, iI_sub, iI_mul, iI_neg, List.length_cons, List.length_nil, ↓reduceIte, va_rf_some, Int.reduceToNat, md_0, md_1, md_2, md_3, md_4, md_5, md_6, md_7, md_8, md_9, md_10, md_11, md_12, md_13, md_14, md_15, md_16, md_17, md_18, md_19, md_20, md_21, md_22, md_23, md_24, md_25, md_26, md_27, md_28, md_29, md_30, md_31, mu_0, mu_3, mu_7, mu_9, mu_12, mu_13, mu_14, mu_15, mu_16, mu_17, mu_18, mu_23, mu_24, mu_26, mu_27, mu_28, mu_29, i10, iI_eq, iI_lt, iI_cl, if_true, if_false, and_self, q3, h9, a0]
    by_cases c2 : 32 < S.X.1.length + D.length
    · rw [if_pos c2] at hQ
      have e : (32 : Int) < (S.X.1.length : Int) + D.length := by omega
      simp (disch := first | assumption | omega | exact isB_z | exact isB_o | exact iI_in' (by assumption) (by omega) (by omega) | exact cat_int _ | exact cat_ref _ | exact cat_null | decide) only [↓x_91_42, ↓x_91_44, up1_same, up1_ne, up1_up1, us_0, us_1, us_2, us_3, us_4, us_5, us_6, us_7, us_8, us_9, us_10, us_11, rw_zero, rw_succ, Option.toList_some, Option.toList_none, List.cons_append, List.nil_append, cat_int, cat_ref, cat_null, iI_add, iI_sub, iI_mul, iI_neg, List.length_cons, List.length_nil, ↓reduceIte, va_rf_some, Int.reduceToNat, md_0, md_1, md_2, md_3, md_4, md_5, md_6, md_7, md_8, md_9, md_10, md_11, md_12, md_13, md_14, md_15, md_16, md_17, md_18, md_19, md_20, md_21, md_22, md_23, md_24, md_25, md_26, md_27, md_28, md_29, md_30, md_31, mu_0, mu_3, mu_7, mu_9, mu_12, mu_13, mu_14, mu_15, mu_16, mu_17, mu_18, mu_23, mu_24, mu_26, mu_27, mu_28, mu_29, i10, iI_eq, iI_lt, iI_cl, if_true, if_false, and_self, e]
      exact hQ _ A1 r1 (fun a ha => q2 a (by omega))
    · rw [if_neg c2] at hQ
      have e : ¬ (32 : Int) < (S.X.1.length : Int) + D.length := by omega
      simp (disch := first | assumption | omega | exact isB_z | exact isB_o | exact iI_in' (by assumption) (by omega) (by omega) | exact cat_int _ | exact cat_ref _ | exact cat_null | decide) only [↓x_91_45, ↓x_91_46, up1_same, up1_ne, up1_up1, us_0, us_1, us_2, us_3, us_4, us_5, us_6, us_7, us_8, us_9, us_10, us_11, rw_zero, rw_succ, Option.toList_some, Option.toList_none, List.cons_append, List.nil_append, cat_int, cat_ref, cat_null, iI_add, iI_sub, iI_mul, iI_neg, List.length_cons, List.length_nil, ↓reduceIte, va_rf_some, Int.reduceToNat, md_0, md_1, md_2, md_3, md_4, md_5, md_6, md_7, md_8, md_9, md_10, md_11, md_12, md_13, md_14, md_15, md_16, md_17, md_18, md_19, md_20, md_21, md_22, md_23, md_24, md_25, md_26, md_27, md_28, md_29, md_30, md_31, mu_0, mu_3, mu_7, mu_9, mu_12, mu_13, mu_14, mu_15, mu_16, mu_17, mu_18, mu_23, mu_24, mu_26, mu_27, mu_28, mu_29, i10, iI_eq, iI_lt, iI_cl, if_true, if_false, and_self, e]
      refine k_notes hK' hS r1 (fun n A2 s1 s2 => ?_)
      simp (disch := first | assumption | omega | exact isB_z | exact isB_o | exact iI_in' (by assumption) (by omega) (by omega) | exact cat_int _ | exact cat_ref _ | exact cat_null | decide) only [↓x_91_49, ↓x_91_50, up1_same, up1_ne, up1_up1, us_0, us_1, us_2, us_3, us_4, us_5, us_6, us_7, us_8, us_9, us_10, us_11, rw_zero, rw_succ, Option.toList_some, Option.toList_none, List.cons_append, List.nil_append, cat_int, cat_ref, cat_null, iI_add, iI_sub, iI_mul, iI_neg, List.length_cons, List.length_nil, ↓reduceIte, va_rf_some, Int.reduceToNat, md_0, md_1, md_2, md_3, md_4, md_5, md_6, md_7, md_8, md_9, md_10, md_11, md_12, md_13, md_14, md_15, md_16, md_17, md_18, md_19, md_20, md_21, md_22, md_23, md_24, md_25, md_26, md_27, md_28, md_29, md_30, md_31, mu_0, mu_3, mu_7, mu_9, mu_12, mu_13, mu_14, mu_15, mu_16, mu_17, mu_18, mu_23, mu_24, mu_26, mu_27, mu_28, mu_29, i10, iI_eq, iI_lt, iI_cl, if_true, if_false, and_self]
      refine tells_loopM (D := D) (XE := snA S.X D) (A0 := A2) hK' hfk (by rw [up1_ne (by omega)]; exact h9) hDl (fun A3 u1 u2 => ?_) D 0 S.X A2 (by omega) (fun q _ => by rw [Nat.zero_add]) s1.wi hS.wo (by omega) rfl (fun j hj => by rw [s2 68 (by omega)]; exact hD j hj) (fun _ _ => rfl)
      have s3 := s1.wire u1 u2
      refine hQ _ A3 ⟨s3.wi, (up1_ne (by omega)).trans s3.um, s3.ew, s3.im, up1_same _ _ _, fun i hi => absurd hi (Nat.not_lt_zero _), by rw [up1_ne (by omega)]; exact s3.la⟩ (fun a ha => (u2 a (by omega)).trans ((s2 a (by omega)).trans (q2 a (by omega))))
  · rw [if_neg c] at q3
    rw [if_pos (by omega)] at hQ
    have e : ¬ (fpT S.T).1 = -9 := by omega
    simp (disch := first | assumption | omega | exact isB_z | exact isB_o | exact iI_in' (by assumption) (by omega) (by omega) | exact cat_int _ | exact cat_ref _ | exact cat_null | decide) only [↓x_91_9, ↓x_91_10, ↓x_91_13, ↓x_91_15, ↓x_91_18, ↓x_91_20, ↓x_91_21, ↓x_91_24, ↓x_91_25, up1_same, up1_ne, up1_up1, us_0, us_1, us_2, us_3, us_4, us_5, us_6, us_7, us_8, us_9, us_10, us_11, rw_zero, rw_succ, Option.toList_some, Option.toList_none, List.cons_append, List.nil_append, cat_int, cat_ref, cat_null, iI_add, iI_sub, iI_mul, iI_neg, List.length_cons, List.length_nil, ↓reduceIte, va_rf_some, Int.reduceToNat, md_0, md_1, md_2, md_3, md_4, md_5, md_6, md_7, md_8, md_9, md_10, md_11, md_12, md_13, md_14, md_15, md_16, md_17, md_18, md_19, md_20, md_21, md_22, md_23, md_24, md_25, md_26, md_27, md_28, md_29, md_30, md_31, mu_0, mu_3, mu_7, mu_9, mu_12, mu_13, mu_14, mu_15, mu_16, mu_17, mu_18, mu_23, mu_24, mu_26, mu_27, mu_28, mu_29, i10, iI_eq, iI_lt, iI_cl, if_true, if_false, and_self, q3, e]
    exact hQ _ A1 r1 (fun a ha => q2 a (by omega))
end
