/-! THE MODEL: the text read -/
theorem fpG_skB (T : List Int) (due : Int) (D : List Int) : ∀ (n i : Nat), fpG T due i D = fpG T due (skB T n i) D := by
  intro n
  induction n with
  | zero => intro i; rfl
  | succ n ih =>
    intro i
    simp only [skB]
    split
    · next c => rw [fpG_blank c.1 c.2]; exact ih (i + 1)
    · rfl
theorem fpG_sk (T : List Int) (due : Int) (D : List Int) (i : Nat) : fpG T due i D = fpG T due (sk T i) D := fpG_skB T due D _ i
theorem tkT_b (T : List Int) (p : Nat) : 0 ≤ tkT T p ∧ tkT T p ≤ 4 := by
  unfold tkT
  split
  · omega
  · split
    · split <;> omega
    · split
      · omega
      · split <;> omega
theorem tkT_0 {T : List Int} {p : Nat} (h : p < T.length) : ¬ tkT T p = 0 := by
  unfold tkT
  rw [if_neg (by omega)]
  split
  · split <;> omega
  · split
    · omega
    · split <;> omega
theorem tkT_1 {T : List Int} {p : Nat} (h : p < T.length) : tkT T p = 1 ↔ (T.getD p 0 = 100 ∨ T.getD p 0 = 107) := by
  unfold tkT
  rw [if_neg (by omega)]
  by_cases f : fg T p
  · have := f.2
    rw [if_pos f]
    constructor
    · intro q; split at q <;> omega
    · intro q; omega
  · rw [if_neg f]
    constructor
    · intro q
      split at q
      · omega
      · split at q
        · assumption
        · omega
    · intro q
      rw [if_neg (by omega), if_pos q]
theorem tkT_2 {T : List Int} {p : Nat} (h : p < T.length) : tkT T p = 2 ↔ ¬ nuA T p (tkE T p) = -1 := by
  unfold tkT
  rw [if_neg (by omega)]
  by_cases f : fg T p
  · rw [if_pos f]
    constructor
    · intro q r; rw [if_pos r] at q; omega
    · intro q; rw [if_neg q]
  · rw [if_neg f]
    have : nuA T p (tkE T p) = -1 := by unfold nuA; rw [if_pos (Or.inl f)]
    constructor
    · intro q
      split at q
      · omega
      · split at q <;> omega
    · intro q; exact absurd this q
theorem tkT_3 {T : List Int} {p : Nat} (h : p < T.length) : tkT T p = 3 ↔ T.getD p 0 = 59 := by
  unfold tkT
  rw [if_neg (by omega)]
  by_cases f : fg T p
  · have := f.2
    rw [if_pos f]
    constructor
    · intro q; split at q <;> omega
    · intro q; omega
  · rw [if_neg f]
    constructor
    · intro q
      split at q
      · assumption
      · split at q <;> omega
    · intro q
      rw [if_pos q]
theorem tkE_1 {T : List Int} {p : Nat} (h : p < T.length) (f : ¬ fg T p) : tkE T p = p + 1 := by
  obtain ⟨n, hn⟩ : ∃ n, T.length - p = n + 1 := ⟨T.length - p - 1, by omega⟩
  unfold tkE
  rw [hn, fgE_s, if_neg f, if_pos rfl]
theorem wrap16 (g : Nat → Int) : ∃ g' : Nat → Int, mdR g' = mdR g ∧ (∀ k, k ≠ 16 → g' k = g k) ∧ -2147483648 ≤ g' 16 ∧ g' 16 < 2147483648 := by
  obtain ⟨z, h1, h2, h3⟩ := iI_of (iI (g 16))
  refine ⟨up1 g 16 z, ?_, fun k hk => up1_ne hk, by rw [up1_same]; exact h1, by rw [up1_same]; exact h2⟩
  rw [← mu_16]
  rw [← h3, ← md_16]
  exact up1_self _ _
/-- what reading leaves -/
def rtF (g g' : Nat → Int) : Prop := ∀ k, k ≠ 9 → k < 13 ∨ 17 < k → g' k = g k
/-- there is a fault -/
def rb (g : Nat → Int) (z : Int) (n : Nat) : Prop := g 17 = z ∧ g 9 = n ∧ (0 ≤ g 15 ∧ g 15 ≤ 4) ∧ (-2147483648 ≤ g 16 ∧ g 16 < 2147483648) ∧ (0 ≤ z ∧ z ≤ 120) ∧ n ≤ 50
section
variable {d : Nat} {t : mL} {V : Nat → Nat → Value} {A : Nat → Nat → Int32} {P : Nat → Nat → Option Nat} {μ : mM} {Q : Option Value → mM → Prop} {S : aS} {g : Nat → Int} {T : List Int}
theorem k_takes_bad {z : Int} {x : Int32} (hK : mK t) (h17 : g 17 = z) (hz : 0 ≤ z ∧ z ≤ 120) : Call (d + 1) 89 [.ref 62, .int x] (t, up1 V 62 (mdR g), A, P) Q = Q (some (.int (iI (g 16)))) (t, up1 V 62 (mdR g), A, P) := by
  have m0 := hK.1
  have e : ¬ z = -9 := by omega
  simp (disch := first | assumption | omega | exact isB_z | exact isB_o | exact iI_in' (by assumption) (by omega) (by omega) | exact cat_int _ | exact cat_ref _ | exact cat_null | decide) only [c_89, ↓x_89_0, ↓x_89_1, ↓x_89_4, ↓x_89_5, ↓x_89_6, ↓x_89_9, ↓x_89_11, ↓x_89_33, ↓x_89_34, up1_same, up1_ne, up1_up1, us_0, us_1, us_2, us_3, us_4, us_5, us_6, us_7, us_8, us_9, us_10, us_11, rw_zero, rw_succ, Option.toList_some, Option.toList_none, List.cons_append, List.nil_append, cat_int, cat_ref, cat_null, iI_add, iI_sub, iI_mul, iI_neg, List.length_cons, List.length_nil, ↓reduceIte, va_rf_some, Int.reduceToNat, md_0, md_1, md_2, md_3, md_4, md_5, md_6, md_7, md_8, md_9, md_10, md_11, md_12, md_13, md_14, md_15, md_16, md_17, md_18, md_19, md_20, md_21, md_22, md_23, md_24, md_25, md_26, md_27, md_28, md_29, md_30, md_31, mu_0, mu_3, mu_7, mu_9, mu_12, mu_13, mu_14, mu_15, mu_16, mu_17, mu_18, mu_23, mu_24, mu_26, mu_27, mu_28, mu_29, i10, iI_eq, iI_lt, iI_cl, if_true, if_false, and_self, h17, e]
theorem k_takes_no (hK : mK t) (h17 : g 17 = -9) : Call (d + 1) 89 [.ref 62, .int (iI 0)] (t, up1 V 62 (mdR g), A, P) Q = Q (some (.int (iI (g 16)))) (t, up1 V 62 (mdR (up1 g 17 (g 14))), A, P) := by
  have m0 := hK.1
  simp (disch := first | assumption | omega | exact isB_z | exact isB_o | exact iI_in' (by assumption) (by omega) (by omega) | exact cat_int _ | exact cat_ref _ | exact cat_null | decide) only [c_89, ↓x_89_0, ↓x_89_1, ↓x_89_4, ↓x_89_5, ↓x_89_6, ↓x_89_9, ↓x_89_11, ↓x_89_14, ↓x_89_15, ↓x_89_25, ↓x_89_26, ↓x_89_27, ↓x_89_30, ↓x_89_33, ↓x_89_34, up1_same, up1_ne, up1_up1, us_0, us_1, us_2, us_3, us_4, us_5, us_6, us_7, us_8, us_9, us_10, us_11, rw_zero, rw_succ, Option.toList_some, Option.toList_none, List.cons_append, List.nil_append, cat_int, cat_ref, cat_null, iI_add, iI_sub, iI_mul, iI_neg, List.length_cons, List.length_nil, ↓reduceIte, va_rf_some, Int.reduceToNat, md_0, md_1, md_2, md_3, md_4, md_5, md_6, md_7, md_8, md_9, md_10, md_11, md_12, md_13, md_14, md_15, md_16, md_17, md_18, md_19, md_20, md_21, md_22, md_23, md_24, md_25, md_26, md_27, md_28, md_29, md_30, md_31, mu_0, mu_3, mu_7, mu_9, mu_12, mu_13, mu_14, mu_15, mu_16, mu_17, mu_18, mu_23, mu_24, mu_26, mu_27, mu_28, mu_29, i10, iI_eq, iI_lt, iI_cl, if_true, if_false, and_self, h17]
theorem k_takes_yes {i : Nat} (hK : mK t) (hT : txH g A T) (hi : i ≤ T.length) (h13 : g 13 = i) (h16 : -2147483648 ≤ g 16 ∧ g 16 < 2147483648) (h17 : g 17 = -9) (hQ : ∀ g' : Nat → Int, (∀ k, k < 13 ∨ 16 < k → g' k = g k) → tkS T (sk T i) g' → Q (some (.int (iI (g 16)))) (t, up1 V 62 (mdR g'), A, P)) : Call (d + 4) 89 [.ref 62, .int (iI 1)] (t, up1 V 62 (mdR g), A, P) Q := by
  have m0 := hK.1
  simp (disch := first | assumption | omega | exact isB_z | exact isB_o | exact iI_in' (by assumption) (by omega) (by omega) | exact cat_int _ | exact cat_ref _ | exact cat_null | decide) only [c_89, ↓x_89_0, ↓x_89_1, ↓x_89_4, ↓x_89_5, ↓x_89_6, ↓x_89_9, ↓x_89_11, ↓x_89_14, ↓x_89_15, ↓x_89_18, ↓x_89_19, up1_same, up1_ne, up1_up1, us_0, us_1, us_2, us_3, us_4, us_5, us_6, us_7, us_8, us_9, us_10, us_11, rw_zero, rw_succ, Option.toList_some, Option.toList_none, List.cons_append, List.nil_append, cat_int, cat_ref, cat_null, iI_add, iI_sub, iI_mul, iI_neg, List.length_cons, List.length_nil, ↓reduceIte, va_rf_some, Int.reduceToNat, md_0, md_1, md_2, md_3, md_4, md_5, md_6, md_7, md_8, md_9, md_10, md_11, md_12, md_13, md_14, md_15, md_16, md_17, md_18, md_19, md_20, md_21, md_22, md_23, md_24, md_25, md_26, md_27, md_28, md_29, md_30, md_31, mu_0, mu_3, mu_7, mu_9, mu_12, mu_13, mu_14, mu_15, mu_16, mu_17, mu_18, mu_23, mu_24, mu_26, mu_27, mu_28, mu_29, i10, iI_eq, iI_lt, iI_cl, if_true, if_false, and_self, h17]
  refine k_advances hK hT hi h13 h16 (fun g' q1 q2 => ?_)
  simp (disch := first | assumption | omega | exact isB_z | exact isB_o | exact iI_in' (by assumption) (by omega) (by omega) | exact cat_int _ | exact cat_ref _ | exact cat_null | decide) only [↓x_89_22, ↓x_89_33, ↓x_89_34, up1_same, up1_ne, up1_up1, us_0, us_1, us_2, us_3, us_4, us_5, us_6, us_7, us_8, us_9, us_10, us_11, rw_zero, rw_succ, Option.toList_some, Option.toList_none, List.cons_append, List.nil_append, cat_int, cat_ref, cat_null, iI_add, iI_sub, iI_mul, iI_neg, List.length_cons, List.length_nil, ↓reduceIte, va_rf_some, Int.reduceToNat, md_0, md_1, md_2, md_3, md_4, md_5, md_6, md_7, md_8, md_9, md_10, md_11, md_12, md_13, md_14, md_15, md_16, md_17, md_18, md_19, md_20, md_21, md_22, md_23, md_24, md_25, md_26, md_27, md_28, md_29, md_30, md_31, mu_0, mu_3, mu_7, mu_9, mu_12, mu_13, mu_14, mu_15, mu_16, mu_17, mu_18, mu_23, mu_24, mu_26, mu_27, mu_28, mu_29, i10, iI_eq, iI_lt, iI_cl, if_true, if_false, and_self]
  exact hQ g' q1 q2
theorem rt_bad3 {z b : Int} {n : Nat} {x : Int32} {g0 : Nat → Int} {A0 : Nat → Nat → Int32} (hK : mK t) (hR : rb g z n) (hb : b = 0 ∨ b = 1) (hg : rtF g0 g) (hA : ∀ a, a ≠ 68 → A a = A0 a) (hF : ∀ (g' : Nat → Int) (A' : Nat → Nat → Int32), rtF g0 g' → (∀ a, a ≠ 68 → A' a = A0 a) → g' 17 = z → Q none (t, up1 V 62 (mdR g'), A', P)) : Ev (d + 4) 90 128 [.ref 62, .int (iI b), .int x] [] (t, up1 V 62 (mdR g), A, P) Q := by
  obtain ⟨m0, ⟨m1, l1⟩, ⟨m2, l2⟩, ⟨m3, l3⟩, ⟨m4, l4⟩, ⟨m5, l5⟩, ⟨m6, l6⟩, ⟨m7, l7⟩, ⟨m8, l8⟩, ⟨m9, l9⟩, ⟨m10, l10⟩, ⟨m11, l11⟩, ⟨m12, l12⟩, ⟨m13, l13⟩, ⟨m14, l14⟩, m15, l15⟩ := hK
  obtain ⟨h17, h9, h15, h16, hz, hn⟩ := hR
  have e : ¬ z = -9 := by omega
  have hfr : ∀ w : Int, rtF g0 (up1 g 9 w) := fun w k h1 h2 => by rw [up1_ne h1]; exact hg k h1 h2
  rcases hb with rfl | rfl
  · simp (disch := first | assumption | omega | exact isB_z | exact isB_o | exact iI_in' (by assumption) (by omega) (by omega) | exact cat_int _ | exact cat_ref _ | exact cat_null | decide) only [↓x_90_20, ↓x_90_21, ↓x_90_24, ↓x_90_26, ↓x_90_128, ↓x_90_129, ↓x_90_132, ↓x_90_133, ↓x_90_136, ↓x_90_137, ↓x_90_140, ↓x_90_141, ↓x_90_144, ↓x_90_146, ↓x_90_147, ↓x_90_148, ↓x_90_149, ↓x_90_150, ↓x_90_151, ↓x_90_154, ↓x_90_155, ↓x_90_156, ↓x_90_159, ↓x_90_162, up1_same, up1_ne, up1_up1, us_0, us_1, us_2, us_3, us_4, us_5, us_6, us_7, us_8, us_9, us_10, us_11, rw_zero, rw_succ, Option.toList_some, Option.toList_none, List.cons_append, List.nil_append, cat_int, cat_ref, cat_null, iI_add, iI_sub, iI_mul, iI_neg, List.length_cons, List.length_nil, ↓reduceIte, va_rf_some, Int.reduceToNat, md_0, md_1, md_2, md_3, md_4, md_5, md_6, md_7, md_8, md_9, md_10, md_11, md_12, md_13, md_14, md_15, md_16, md_17, md_18, md_19, md_20, md_21, md_22, md_23, md_24, md_25, md_26, md_27, md_28, md_29, md_30, md_31, mu_0, mu_3, mu_7, mu_9, mu_12, mu_13, mu_14, mu_15, mu_16, mu_17, mu_18, mu_23, mu_24, mu_26, mu_27, mu_28, mu_29, i10, iI_eq, iI_lt, iI_cl, if_true, if_false, and_self, h17, h9, e]
    exact hF _ _ (hfr _) (fun a ha => by rw [up1_ne ha]; exact hA a ha) (by rw [up1_ne (by omega)]; exact h17)
  · simp (disch := first | assumption | omega | exact isB_z | exact isB_o | exact iI_in' (by assumption) (by omega) (by omega) | exact cat_int _ | exact cat_ref _ | exact cat_null | decide) only [↓x_90_20, ↓x_90_21, ↓x_90_24, ↓x_90_26, ↓x_90_128, ↓x_90_129, ↓x_90_132, ↓x_90_133, ↓x_90_136, ↓x_90_137, ↓x_90_140, ↓x_90_141, ↓x_90_144, ↓x_90_146, ↓x_90_147, ↓x_90_148, ↓x_90_149, ↓x_90_150, ↓x_90_151, ↓x_90_154, ↓x_90_155, ↓x_90_156, ↓x_90_159, ↓x_90_162, up1_same, up1_ne, up1_up1, us_0, us_1, us_2, us_3, us_4, us_5, us_6, us_7, us_8, us_9, us_10, us_11, rw_zero, rw_succ, Option.toList_some, Option.toList_none, List.cons_append, List.nil_append, cat_int, cat_ref, cat_null, iI_add, iI_sub, iI_mul, iI_neg, List.length_cons, List.length_nil, ↓reduceIte, va_rf_some, Int.reduceToNat, md_0, md_1, md_2, md_3, md_4, md_5, md_6, md_7, md_8, md_9, md_10, md_11, md_12, md_13, md_14, md_15, md_16, md_17, md_18, md_19, md_20, md_21, md_22, md_23, md_24, md_25, md_26, md_27, md_28, md_29, md_30, md_31, mu_0, mu_3, mu_7, mu_9, mu_12, mu_13, mu_14, mu_15, mu_16, mu_17, mu_18, mu_23, mu_24, mu_26, mu_27, mu_28, mu_29, i10, iI_eq, iI_lt, iI_cl, if_true, if_false, and_self, h17, h9, e]
    exact hF _ _ (hfr _) (fun a ha => by rw [up1_ne ha]; exact hA a ha) (by rw [up1_ne (by omega)]; exact h17)
theorem rt_bad2 {z b : Int} {n : Nat} {x : Int32} {g0 : Nat → Int} {A0 : Nat → Nat → Int32} (hK : mK t) (hR : rb g z n) (hb : b = 0 ∨ b = 1) (hg : rtF g0 g) (hA : ∀ a, a ≠ 68 → A a = A0 a) (hF : ∀ (g' : Nat → Int) (A' : Nat → Nat → Int32), rtF g0 g' → (∀ a, a ≠ 68 → A' a = A0 a) → g' 17 = z → Q none (t, up1 V 62 (mdR g'), A', P)) : Ev (d + 4) 90 110 [.ref 62, .int (iI b), .int x] [] (t, up1 V 62 (mdR g), A, P) Q := by
  have m0 := hK.1
  have hz := hR.2.2.2.2.1
  have h15 := hR.2.2.1
  by_cases c : g 15 = 3
  · simp (disch := first | assumption | omega | exact isB_z | exact isB_o | exact iI_in' (by assumption) (by omega) (by omega) | exact cat_int _ | exact cat_ref _ | exact cat_null | decide) only [↓x_90_110, ↓x_90_111, ↓x_90_112, ↓x_90_115, ↓x_90_116, ↓x_90_119, ↓x_90_120, ↓x_90_123, ↓x_90_124, ↓x_90_127, up1_same, up1_ne, up1_up1, us_0, us_1, us_2, us_3, us_4, us_5, us_6, us_7, us_8, us_9, us_10, us_11, rw_zero, rw_succ, Option.toList_some, Option.toList_none, List.cons_append, List.nil_append, cat_int, cat_ref, cat_null, iI_add, iI_sub, iI_mul, iI_neg, List.length_cons, List.length_nil, ↓reduceIte, va_rf_some, Int.reduceToNat, md_0, md_1, md_2, md_3, md_4, md_5, md_6, md_7, md_8, md_9, md_10, md_11, md_12, md_13, md_14, md_15, md_16, md_17, md_18, md_19, md_20, md_21, md_22, md_23, md_24, md_25, md_26, md_27, md_28, md_29, md_30, md_31, mu_0, mu_3, mu_7, mu_9, mu_12, mu_13, mu_14, mu_15, mu_16, mu_17, mu_18, mu_23, mu_24, mu_26, mu_27, mu_28, mu_29, i10, iI_eq, iI_lt, iI_cl, if_true, if_false, and_self, c, k_takes_bad hK hR.1 hz]
    exact rt_bad3 hK hR hb hg hA hF
  · simp (disch := first | assumption | omega | exact isB_z | exact isB_o | exact iI_in' (by assumption) (by omega) (by omega) | exact cat_int _ | exact cat_ref _ | exact cat_null | decide) only [↓x_90_110, ↓x_90_111, ↓x_90_112, ↓x_90_115, ↓x_90_116, ↓x_90_119, ↓x_90_120, ↓x_90_123, ↓x_90_124, ↓x_90_127, up1_same, up1_ne, up1_up1, us_0, us_1, us_2, us_3, us_4, us_5, us_6, us_7, us_8, us_9, us_10, us_11, rw_zero, rw_succ, Option.toList_some, Option.toList_none, List.cons_append, List.nil_append, cat_int, cat_ref, cat_null, iI_add, iI_sub, iI_mul, iI_neg, List.length_cons, List.length_nil, ↓reduceIte, va_rf_some, Int.reduceToNat, md_0, md_1, md_2, md_3, md_4, md_5, md_6, md_7, md_8, md_9, md_10, md_11, md_12, md_13, md_14, md_15, md_16, md_17, md_18, md_19, md_20, md_21, md_22, md_23, md_24, md_25, md_26, md_27, md_28, md_29, md_30, md_31, mu_0, mu_3, mu_7, mu_9, mu_12, mu_13, mu_14, mu_15, mu_16, mu_17, mu_18, mu_23, mu_24, mu_26, mu_27, mu_28, mu_29, i10, iI_eq, iI_lt, iI_cl, if_true, if_false, and_self, c, k_takes_bad hK hR.1 hz]
    exact rt_bad3 hK hR hb hg hA hF
theorem rt_bad1 {z b : Int} {n : Nat} {x : Value} {g0 : Nat → Int} {A0 : Nat → Nat → Int32} (hK : mK t) (hR : rb g z n) (hb : b = 0 ∨ b = 1) (hx : x.category = 1) (hg : rtF g0 g) (hA : ∀ a, a ≠ 68 → A a = A0 a) (hF : ∀ (g' : Nat → Int) (A' : Nat → Nat → Int32), rtF g0 g' → (∀ a, a ≠ 68 → A' a = A0 a) → g' 17 = z → Q none (t, up1 V 62 (mdR g'), A', P)) : Ev (d + 4) 90 71 [.ref 62, .int (iI b), x] [] (t, up1 V 62 (mdR g), A, P) Q := by
  have m0 := hK.1
  have hz := hR.2.2.2.2.1
  have h15 := hR.2.2.1
  have h16 := hR.2.2.2.1
  by_cases c : g 15 = 2
  · rcases hb with rfl | rfl
    · by_cases c2 : 0 ≤ g 16 ∧ g 16 ≤ 2
      · simp (disch := first | assumption | omega | exact isB_z | exact isB_o | exact iI_in' (by assumption) (by omega) (by omega) | exact cat_int _ | exact cat_ref _ | exact cat_null | decide) only [↓x_90_71, ↓x_90_72, ↓x_90_73, ↓x_90_76, ↓x_90_77, ↓x_90_80, ↓x_90_81, ↓x_90_84, ↓x_90_85, ↓x_90_86, ↓x_90_89, ↓x_90_91, ↓x_90_94, ↓x_90_95, ↓x_90_98, ↓x_90_101, ↓x_90_102, ↓x_90_105, ↓x_90_106, ↓x_90_109, up1_same, up1_ne, up1_up1, us_0, us_1, us_2, us_3, us_4, us_5, us_6, us_7, us_8, us_9, us_10, us_11, rw_zero, rw_succ, Option.toList_some, Option.toList_none, List.cons_append, List.nil_append, cat_int, cat_ref, cat_null, iI_add, iI_sub, iI_mul, iI_neg, List.length_cons, List.length_nil, ↓reduceIte, va_rf_some, Int.reduceToNat, md_0, md_1, md_2, md_3, md_4, md_5, md_6, md_7, md_8, md_9, md_10, md_11, md_12, md_13, md_14, md_15, md_16, md_17, md_18, md_19, md_20, md_21, md_22, md_23, md_24, md_25, md_26, md_27, md_28, md_29, md_30, md_31, mu_0, mu_3, mu_7, mu_9, mu_12, mu_13, mu_14, mu_15, mu_16, mu_17, mu_18, mu_23, mu_24, mu_26, mu_27, mu_28, mu_29, i10, iI_eq, iI_lt, iI_cl, if_true, if_false, and_self, c, k_in, c2, k_takes_bad hK hR.1 hz]
        exact rt_bad2 hK hR (Or.inl rfl) hg hA hF
      · simp (disch := first | assumption | omega | exact isB_z | exact isB_o | exact iI_in' (by assumption) (by omega) (by omega) | exact cat_int _ | exact cat_ref _ | exact cat_null | decide) only [↓x_90_71, ↓x_90_72, ↓x_90_73, ↓x_90_76, ↓x_90_77, ↓x_90_80, ↓x_90_81, ↓x_90_84, ↓x_90_85, ↓x_90_86, ↓x_90_89, ↓x_90_91, ↓x_90_94, ↓x_90_95, ↓x_90_98, ↓x_90_101, ↓x_90_102, ↓x_90_105, ↓x_90_106, ↓x_90_109, up1_same, up1_ne, up1_up1, us_0, us_1, us_2, us_3, us_4, us_5, us_6, us_7, us_8, us_9, us_10, us_11, rw_zero, rw_succ, Option.toList_some, Option.toList_none, List.cons_append, List.nil_append, cat_int, cat_ref, cat_null, iI_add, iI_sub, iI_mul, iI_neg, List.length_cons, List.length_nil, ↓reduceIte, va_rf_some, Int.reduceToNat, md_0, md_1, md_2, md_3, md_4, md_5, md_6, md_7, md_8, md_9, md_10, md_11, md_12, md_13, md_14, md_15, md_16, md_17, md_18, md_19, md_20, md_21, md_22, md_23, md_24, md_25, md_26, md_27, md_28, md_29, md_30, md_31, mu_0, mu_3, mu_7, mu_9, mu_12, mu_13, mu_14, mu_15, mu_16, mu_17, mu_18, mu_23, mu_24, mu_26, mu_27, mu_28, mu_29, i10, iI_eq, iI_lt, iI_cl, if_true, if_false, and_self, c, k_in, c2, k_takes_bad hK hR.1 hz]
        exact rt_bad2 hK hR (Or.inl rfl) hg hA hF
    · by_cases c2 : 0 ≤ g 16 ∧ g 16 ≤ 30
      · simp (disch := first | assumption | omega | exact isB_z | exact isB_o | exact iI_in' (by assumption) (by omega) (by omega) | exact cat_int _ | exact cat_ref _ | exact cat_null | decide) only [↓x_90_71, ↓x_90_72, ↓x_90_73, ↓x_90_76, ↓x_90_77, ↓x_90_80, ↓x_90_81, ↓x_90_84, ↓x_90_85, ↓x_90_86, ↓x_90_89, ↓x_90_91, ↓x_90_94, ↓x_90_95, ↓x_90_98, ↓x_90_101, ↓x_90_102, ↓x_90_105, ↓x_90_106, ↓x_90_109, up1_same, up1_ne, up1_up1, us_0, us_1, us_2, us_3, us_4, us_5, us_6, us_7, us_8, us_9, us_10, us_11, rw_zero, rw_succ, Option.toList_some, Option.toList_none, List.cons_append, List.nil_append, cat_int, cat_ref, cat_null, iI_add, iI_sub, iI_mul, iI_neg, List.length_cons, List.length_nil, ↓reduceIte, va_rf_some, Int.reduceToNat, md_0, md_1, md_2, md_3, md_4, md_5, md_6, md_7, md_8, md_9, md_10, md_11, md_12, md_13, md_14, md_15, md_16, md_17, md_18, md_19, md_20, md_21, md_22, md_23, md_24, md_25, md_26, md_27, md_28, md_29, md_30, md_31, mu_0, mu_3, mu_7, mu_9, mu_12, mu_13, mu_14, mu_15, mu_16, mu_17, mu_18, mu_23, mu_24, mu_26, mu_27, mu_28, mu_29, i10, iI_eq, iI_lt, iI_cl, if_true, if_false, and_self, c, k_in, c2, k_takes_bad hK hR.1 hz]
        exact rt_bad2 hK hR (Or.inr rfl) hg hA hF
      · simp (disch := first | assumption | omega | exact isB_z | exact isB_o | exact iI_in' (by assumption) (by omega) (by omega) | exact cat_int _ | exact cat_ref _ | exact cat_null | decide) only [↓x_90_71, ↓x_90_72, ↓x_90_73, ↓x_90_76, ↓x_90_77, ↓x_90_80, ↓x_90_81, ↓x_90_84, ↓x_90_85, ↓x_90_86, ↓x_90_89, ↓x_90_91, ↓x_90_94, ↓x_90_95, ↓x_90_98, ↓x_90_101, ↓x_90_102, ↓x_90_105, ↓x_90_106, ↓x_90_109, up1_same, up1_ne, up1_up1, us_0, us_1, us_2, us_3, us_4, us_5, us_6, us_7, us_8, us_9, us_10, us_11, rw_zero, rw_succ, Option.toList_some, Option.toList_none, List.cons_append, List.nil_append, cat_int, cat_ref, cat_null, iI_add, iI_sub, iI_mul, iI_neg, List.length_cons, List.length_nil, ↓reduceIte, va_rf_some, Int.reduceToNat, md_0, md_1, md_2, md_3, md_4, md_5, md_6, md_7, md_8, md_9, md_10, md_11, md_12, md_13, md_14, md_15, md_16, md_17, md_18, md_19, md_20, md_21, md_22, md_23, md_24, md_25, md_26, md_27, md_28, md_29, md_30, md_31, mu_0, mu_3, mu_7, mu_9, mu_12, mu_13, mu_14, mu_15, mu_16, mu_17, mu_18, mu_23, mu_24, mu_26, mu_27, mu_28, mu_29, i10, iI_eq, iI_lt, iI_cl, if_true, if_false, and_self, c, k_in, c2, k_takes_bad hK hR.1 hz]
        exact rt_bad2 hK hR (Or.inr rfl) hg hA hF
  · simp (disch := first | assumption | omega | exact isB_z | exact isB_o | exact iI_in' (by assumption) (by omega) (by omega) | exact cat_int _ | exact cat_ref _ | exact cat_null | decide) only [↓x_90_71, ↓x_90_72, ↓x_90_73, ↓x_90_76, ↓x_90_77, ↓x_90_80, ↓x_90_81, ↓x_90_84, ↓x_90_85, ↓x_90_86, ↓x_90_89, ↓x_90_91, ↓x_90_94, ↓x_90_95, ↓x_90_98, ↓x_90_101, ↓x_90_102, ↓x_90_105, ↓x_90_106, ↓x_90_109, up1_same, up1_ne, up1_up1, us_0, us_1, us_2, us_3, us_4, us_5, us_6, us_7, us_8, us_9, us_10, us_11, rw_zero, rw_succ, Option.toList_some, Option.toList_none, List.cons_append, List.nil_append, cat_int, cat_ref, cat_null, iI_add, iI_sub, iI_mul, iI_neg, List.length_cons, List.length_nil, ↓reduceIte, va_rf_some, Int.reduceToNat, md_0, md_1, md_2, md_3, md_4, md_5, md_6, md_7, md_8, md_9, md_10, md_11, md_12, md_13, md_14, md_15, md_16, md_17, md_18, md_19, md_20, md_21, md_22, md_23, md_24, md_25, md_26, md_27, md_28, md_29, md_30, md_31, mu_0, mu_3, mu_7, mu_9, mu_12, mu_13, mu_14, mu_15, mu_16, mu_17, mu_18, mu_23, mu_24, mu_26, mu_27, mu_28, mu_29, i10, iI_eq, iI_lt, iI_cl, if_true, if_false, and_self, c, k_takes_bad hK hR.1 hz]
    exact rt_bad2 hK hR hb hg hA hF
end
