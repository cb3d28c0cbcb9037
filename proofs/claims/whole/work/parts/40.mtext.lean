/-! THE MODEL: the text -/
def txH (g : Nat → Int) (A : Nat → Nat → Int32) (T : List Int) : Prop := g 7 = T.length ∧ T.length ≤ 120 ∧ ∀ i : Nat, i < T.length → A 67 i = iI (T.getD i 0) ∧ 0 ≤ T.getD i 0 ∧ T.getD i 0 ≤ 255
def ltT (T : List Int) (i : Nat) : Int := if i < T.length then T.getD i 0 else -1
/-- where the blanks end -/
def skB (T : List Int) : Nat → Nat → Nat
  | 0, i => i
  | n + 1, i => if i < T.length ∧ T.getD i 0 = 32 then skB T n (i + 1) else i
def sk (T : List Int) (i : Nat) : Nat := skB T (T.length - i) i
/-- a number's value, as the model has it -/
def vF (T : List Int) : Nat → Nat → Int → Int
  | 0, _, v => v
  | n + 1, j, v => if fg T j then vF T n (j + 1) (if 99 < v then v else 10 * v + T.getD j 0 - 48) else v
def tkT (T : List Int) (p : Nat) : Int := if T.length ≤ p then 0 else if fg T p then (if nuA T p (tkE T p) = -1 then 4 else 2) else if T.getD p 0 = 59 then 3 else if T.getD p 0 = 100 ∨ T.getD p 0 = 107 then 1 else 4
theorem skB_b (T : List Int) : ∀ (n i : Nat), i + n = T.length → i ≤ skB T n i ∧ skB T n i ≤ T.length ∧ (skB T n i < T.length → ¬ T.getD (skB T n i) 0 = 32) := by
  intro n
  induction n with
  | zero => intro i h; simp only [skB]; omega
  | succ n ih =>
    intro i h
    simp only [skB]
    split
    · have := ih (i + 1) (by omega); omega
    · next c => exact ⟨Nat.le_refl _, by omega, fun q r => c ⟨q, r⟩⟩
theorem sk_b {T : List Int} {i : Nat} (h : i ≤ T.length) : i ≤ sk T i ∧ sk T i ≤ T.length ∧ (sk T i < T.length → ¬ T.getD (sk T i) 0 = 32) := skB_b T _ i (by omega)
theorem vF_big (T : List Int) : ∀ (n j : Nat) (v : Int), 99 < v → vF T n j v = v := by
  intro n
  induction n with
  | zero => intro j v _; rfl
  | succ n ih =>
    intro j v h
    simp only [vF, if_pos h]
    split
    · exact ih _ v h
    · rfl
theorem fgE_s (T : List Int) (n i : Nat) : fgE T (n + 1) i = if fg T i then fgE T n (i + 1) else i := rfl
theorem vF_s (T : List Int) (n j : Nat) (v : Int) : vF T (n + 1) j v = if fg T j then vF T n (j + 1) (if 99 < v then v else 10 * v + T.getD j 0 - 48) else v := rfl
/-- the class's number and the model's -/
theorem nu_val {T : List Int} {p : Nat} (hf : fg T p) : (if 99 < vF T (T.length - p) p 0 ∨ (T.getD p 0 = 48 ∧ p + 1 < tkE T p) then nuA T p (tkE T p) = -1 else nuA T p (tkE T p) = vF T (T.length - p) p 0) ∧ ((99 < vF T (T.length - p) p 0 ∨ (T.getD p 0 = 48 ∧ p + 1 < tkE T p)) ∨ 0 ≤ nuA T p (tkE T p)) := by
  obtain ⟨h1, h2, h3⟩ := id hf
  obtain ⟨n, hn⟩ : ∃ n, T.length - p = n + 1 := ⟨T.length - p - 1, by omega⟩
  have hE : tkE T p = fgE T n (p + 1) := by
    have := fgE_b T n (p + 1) (by omega)
    unfold tkE
    rw [hn, fgE_s, if_pos hf, if_neg (by omega)]
  have hV : vF T (T.length - p) p 0 = vF T n (p + 1) (T.getD p 0 - 48) := by
    rw [hn, vF_s, if_pos hf, if_neg (by omega)]
    congr 1
    omega
  rw [hE, hV]
  unfold nuA
  cases n with
  | zero =>
    rw [show fgE T 0 (p + 1) = p + 1 from rfl, show vF T 0 (p + 1) (T.getD p 0 - 48) = T.getD p 0 - 48 from rfl, if_neg (by omega), if_neg (fun q => q.elim (fun q => q hf) (fun q => by omega)), if_pos rfl]
    exact ⟨rfl, Or.inr (by omega)⟩
  | succ n =>
    rw [fgE_s, vF_s]
    by_cases f1 : fg T (p + 1)
    · obtain ⟨j1, j2, j3⟩ := id f1
      have hb := fgE_b T n (p + 1 + 1) (by omega)
      rw [if_pos f1, if_pos f1, if_neg (show ¬ 99 < T.getD p 0 - 48 by omega)]
      by_cases e2 : fgE T n (p + 1 + 1) = p + 1 + 1
      · have hv : vF T n (p + 1 + 1) (10 * (T.getD p 0 - 48) + T.getD (p + 1) 0 - 48) = 10 * (T.getD p 0 - 48) + T.getD (p + 1) 0 - 48 := by
          cases n with
          | zero => rfl
          | succ n =>
            rw [fgE_s] at e2
            rw [vF_s]
            by_cases f2 : fg T (p + 1 + 1)
            · rw [if_pos f2] at e2
              have := fgE_b T n (p + 1 + 1 + 1) (by omega)
              omega
            · rw [if_neg f2]
        rw [e2, hv]
        by_cases z : T.getD p 0 = 48
        · rw [if_pos (Or.inr ⟨z, by omega⟩), if_neg (fun q => q.elim (fun q => q hf) (fun q => by omega)), if_neg (by omega), if_pos (Or.inl z)]
          exact ⟨rfl, Or.inl (Or.inr ⟨z, by omega⟩)⟩
        · rw [if_neg (by omega), if_neg (fun q => q.elim (fun q => q hf) (fun q => by omega)), if_neg (by omega), if_neg (fun q => q.elim z (fun q => q f1))]
          exact ⟨rfl, Or.inr (by omega)⟩
      · have hw : 99 < vF T n (p + 1 + 1) (10 * (T.getD p 0 - 48) + T.getD (p + 1) 0 - 48) ∨ T.getD p 0 = 48 := by
          by_cases z : T.getD p 0 = 48
          · exact Or.inr z
          · left
            cases n with
            | zero => exact absurd rfl e2
            | succ n =>
              rw [fgE_s] at e2
              rw [vF_s]
              by_cases f2 : fg T (p + 1 + 1)
              · obtain ⟨i1, i2, i3⟩ := id f2
                rw [if_pos f2, if_neg (by omega), vF_big _ _ _ _ (by omega)]
                omega
              · rw [if_neg f2] at e2
                omega
        have hc : 99 < vF T n (p + 1 + 1) (10 * (T.getD p 0 - 48) + T.getD (p + 1) 0 - 48) ∨ T.getD p 0 = 48 ∧ p + 1 < fgE T n (p + 1 + 1) := by
          rcases hw with q | q
          · exact Or.inl q
          · exact Or.inr ⟨q, by omega⟩
        rw [if_pos hc, if_pos (Or.inr (by omega))]
        exact ⟨rfl, Or.inl hc⟩
    · rw [if_neg f1, if_neg f1, if_neg (by omega), if_neg (fun q => q.elim (fun q => q hf) (fun q => by omega)), if_pos rfl]
      exact ⟨rfl, Or.inr (by omega)⟩
section
variable {d : Nat} {t : mL} {V : Nat → Nat → Value} {A : Nat → Nat → Int32} {P : Nat → Nat → Option Nat} {μ : mM} {Q : Option Value → mM → Prop} {S : aS} {g : Nat → Int} {T : List Int}
theorem ltT_b (hT : txH g A T) (i : Nat) : -1 ≤ ltT T i ∧ ltT T i ≤ 255 := by
  unfold ltT
  split
  · next c => have := (hT.2.2 i c).2; omega
  · omega
theorem k_letterAt {i : Nat} (hK : mK t) (hT : txH g A T) (hi : i ≤ 200) : Call (d + 1) 85 [.ref 62, .int (iI i)] (t, up1 V 62 (mdR g), A, P) Q = Q (some (.int (iI (ltT T i)))) (t, up1 V 62 (mdR g), A, P) := by
  obtain ⟨m0, ⟨m1, l1⟩, ⟨m2, l2⟩, ⟨m3, l3⟩, ⟨m4, l4⟩, ⟨m5, l5⟩, ⟨m6, l6⟩, ⟨m7, l7⟩, ⟨m8, l8⟩, ⟨m9, l9⟩, ⟨m10, l10⟩, ⟨m11, l11⟩, ⟨m12, l12⟩, ⟨m13, l13⟩, ⟨m14, l14⟩, m15, l15⟩ := hK
  obtain ⟨h7, hl, ht⟩ := hT
  unfold ltT
  by_cases c : i < T.length
  · have e : (i : Int) < T.length := by omega
    have tn1 : ((i : Nat) : Int).toNat = i := Int.toNat_natCast _
    have hh := (ht i c).1
    rw [if_pos c]
    simp (disch := first | assumption | omega | exact isB_z | exact isB_o | exact iI_in' (by assumption) (by omega) (by omega) | exact cat_int _ | exact cat_ref _ | exact cat_null | decide) only [c_85, ↓x_85_0, ↓x_85_1, ↓x_85_2, ↓x_85_5, ↓x_85_8, ↓x_85_9, ↓x_85_12, ↓x_85_13, ↓x_85_14, ↓x_85_17, ↓x_85_18, up1_same, up1_ne, up1_up1, us_0, us_1, us_2, us_3, us_4, us_5, us_6, us_7, us_8, us_9, us_10, us_11, rw_zero, rw_succ, Option.toList_some, Option.toList_none, List.cons_append, List.nil_append, cat_int, cat_ref, cat_null, iI_add, iI_sub, iI_mul, iI_neg, List.length_cons, List.length_nil, ↓reduceIte, va_rf_some, Int.reduceToNat, md_0, md_1, md_2, md_3, md_4, md_5, md_6, md_7, md_8, md_9, md_10, md_11, md_12, md_13, md_14, md_15, md_16, md_17, md_18, md_19, md_20, md_21, md_22, md_23, md_24, md_25, md_26, md_27, md_28, md_29, md_30, md_31, mu_0, mu_3, mu_7, mu_9, mu_12, mu_13, mu_14, mu_15, mu_16, mu_17, mu_18, mu_23, mu_24, mu_26, mu_27, mu_28, mu_29, i10, iI_eq, iI_lt, iI_cl, if_true, if_false, and_self, h7, e, tn1, hh]
  · have e : ¬ (i : Int) < T.length := by omega
    rw [if_neg c]
    simp (disch := first | assumption | omega | exact isB_z | exact isB_o | exact iI_in' (by assumption) (by omega) (by omega) | exact cat_int _ | exact cat_ref _ | exact cat_null | decide) only [c_85, ↓x_85_0, ↓x_85_1, ↓x_85_2, ↓x_85_5, ↓x_85_8, ↓x_85_9, ↓x_85_12, ↓x_85_13, ↓x_85_14, ↓x_85_17, ↓x_85_18, up1_same, up1_ne, up1_up1, us_0, us_1, us_2, us_3, us_4, us_5, us_6, us_7, us_8, us_9, us_10, us_11, rw_zero, rw_succ, Option.toList_some, Option.toList_none, List.cons_append, List.nil_append, cat_int, cat_ref, cat_null, iI_add, iI_sub, iI_mul, iI_neg, List.length_cons, List.length_nil, ↓reduceIte, va_rf_some, Int.reduceToNat, md_0, md_1, md_2, md_3, md_4, md_5, md_6, md_7, md_8, md_9, md_10, md_11, md_12, md_13, md_14, md_15, md_16, md_17, md_18, md_19, md_20, md_21, md_22, md_23, md_24, md_25, md_26, md_27, md_28, md_29, md_30, md_31, mu_0, mu_3, mu_7, mu_9, mu_12, mu_13, mu_14, mu_15, mu_16, mu_17, mu_18, mu_23, mu_24, mu_26, mu_27, mu_28, mu_29, i10, iI_eq, iI_lt, iI_cl, if_true, if_false, and_self, h7, e]
theorem adv_skip {p : Nat} {g0 : Nat → Int} (hK : mK t) (hT : txH g0 A T) (hQ : ∀ g' : Nat → Int, (∀ k, k ≠ 13 → g' k = g0 k) → g' 13 = p → Ev (d + 1) 88 26 [.ref 62, .null] [] (t, up1 V 62 (mdR g'), A, P) Q) : ∀ (n i : Nat) (g : Nat → Int), i + n = T.length → skB T n i = p → (∀ k, k ≠ 13 → g k = g0 k) → g 13 = i → Ev (d + 1) 88 0 [.ref 62, .null] [] (t, up1 V 62 (mdR g), A, P) Q := by
  have m0 := hK.1
  have hl := hT.2.1
  intro n
  induction n with
  | zero =>
    intro i g hi hp hg h13
    have hT' : txH g A T := ⟨(hg 7 (by omega)).trans hT.1, hT.2⟩
    simp only [skB] at hp
    subst hp
    have hlt : ltT T i = -1 := by unfold ltT; rw [if_neg (by omega)]
    rw [x_88_0]
    simp (disch := first | assumption | omega | exact isB_z | exact isB_o | exact iI_in' (by assumption) (by omega) (by omega) | exact cat_int _ | exact cat_ref _ | exact cat_null | decide) only [↓x_88_1, ↓x_88_2, ↓x_88_5, ↓x_88_8, ↓x_88_10, up1_same, up1_ne, up1_up1, us_0, us_1, us_2, us_3, us_4, us_5, us_6, us_7, us_8, us_9, us_10, us_11, rw_zero, rw_succ, Option.toList_some, Option.toList_none, List.cons_append, List.nil_append, cat_int, cat_ref, cat_null, iI_add, iI_sub, iI_mul, iI_neg, List.length_cons, List.length_nil, ↓reduceIte, va_rf_some, Int.reduceToNat, md_0, md_1, md_2, md_3, md_4, md_5, md_6, md_7, md_8, md_9, md_10, md_11, md_12, md_13, md_14, md_15, md_16, md_17, md_18, md_19, md_20, md_21, md_22, md_23, md_24, md_25, md_26, md_27, md_28, md_29, md_30, md_31, mu_0, mu_3, mu_7, mu_9, mu_12, mu_13, mu_14, mu_15, mu_16, mu_17, mu_18, mu_23, mu_24, mu_26, mu_27, mu_28, mu_29, i10, iI_eq, iI_lt, iI_cl, if_true, if_false, and_self, h13, k_letterAt hK hT', hlt]
    simp
    exact hQ g hg h13
  | succ n ih =>
    intro i g hi hp hg h13
    have hT' : txH g A T := ⟨(hg 7 (by omega)).trans hT.1, hT.2⟩
    simp only [skB] at hp
    have hlt : ltT T i = T.getD i 0 := by unfold ltT; rw [if_pos (by omega)]
    have hb := ltT_b hT i
    rw [x_88_0]
    simp (disch := first | assumption | omega | exact isB_z | exact isB_o | exact iI_in' (by assumption) (by omega) (by omega) | exact cat_int _ | exact cat_ref _ | exact cat_null | decide) only [↓x_88_1, ↓x_88_2, ↓x_88_5, ↓x_88_8, ↓x_88_10, up1_same, up1_ne, up1_up1, us_0, us_1, us_2, us_3, us_4, us_5, us_6, us_7, us_8, us_9, us_10, us_11, rw_zero, rw_succ, Option.toList_some, Option.toList_none, List.cons_append, List.nil_append, cat_int, cat_ref, cat_null, iI_add, iI_sub, iI_mul, iI_neg, List.length_cons, List.length_nil, ↓reduceIte, va_rf_some, Int.reduceToNat, md_0, md_1, md_2, md_3, md_4, md_5, md_6, md_7, md_8, md_9, md_10, md_11, md_12, md_13, md_14, md_15, md_16, md_17, md_18, md_19, md_20, md_21, md_22, md_23, md_24, md_25, md_26, md_27, md_28, md_29, md_30, md_31, mu_0, mu_3, mu_7, mu_9, mu_12, mu_13, mu_14, mu_15, mu_16, mu_17, mu_18, mu_23, mu_24, mu_26, mu_27, mu_28, mu_29, i10, iI_eq, iI_lt, iI_cl, if_true, if_false, and_self, h13, k_letterAt hK hT']
    rw [hlt]
    by_cases c : T.getD i 0 = 32
    · rw [if_pos ⟨by omega, c⟩] at hp
      have ci : (i : Int) + 1 = ((i + 1 : Nat) : Int) := by omega
      simp (disch := first | assumption | omega | exact isB_z | exact isB_o | exact iI_in' (by assumption) (by omega) (by omega) | exact cat_int _ | exact cat_ref _ | exact cat_null | decide) only [↓x_88_13, ↓x_88_14, ↓x_88_15, ↓x_88_18, ↓x_88_19, ↓x_88_20, ↓x_88_23, up1_same, up1_ne, up1_up1, us_0, us_1, us_2, us_3, us_4, us_5, us_6, us_7, us_8, us_9, us_10, us_11, rw_zero, rw_succ, Option.toList_some, Option.toList_none, List.cons_append, List.nil_append, cat_int, cat_ref, cat_null, iI_add, iI_sub, iI_mul, iI_neg, List.length_cons, List.length_nil, ↓reduceIte, va_rf_some, Int.reduceToNat, md_0, md_1, md_2, md_3, md_4, md_5, md_6, md_7, md_8, md_9, md_10, md_11, md_12, md_13, md_14, md_15, md_16, md_17, md_18, md_19, md_20, md_21, md_22, md_23, md_24, md_25, md_26, md_27, md_28, md_29, md_30, md_31, mu_0, mu_3, mu_7, mu_9, mu_12, mu_13, mu_14, mu_15, mu_16, mu_17, mu_18, mu_23, mu_24, mu_26, mu_27, mu_28, mu_29, i10, iI_eq, iI_lt, iI_cl, if_true, if_false, and_self, h13, c, ci]
      exact ih (i + 1) _ (by omega) hp (fun k hk => by rw [up1_ne hk]; exact hg k hk) (up1_same _ _ _)
    · rw [if_neg (fun q => c q.2)] at hp
      subst hp
      simp (disch := first | assumption | omega | exact isB_z | exact isB_o | exact iI_in' (by assumption) (by omega) (by omega) | exact cat_int _ | exact cat_ref _ | exact cat_null | decide) only [↓x_88_13, ↓x_88_14, ↓x_88_15, ↓x_88_18, ↓x_88_19, ↓x_88_20, ↓x_88_23, up1_same, up1_ne, up1_up1, us_0, us_1, us_2, us_3, us_4, us_5, us_6, us_7, us_8, us_9, us_10, us_11, rw_zero, rw_succ, Option.toList_some, Option.toList_none, List.cons_append, List.nil_append, cat_int, cat_ref, cat_null, iI_add, iI_sub, iI_mul, iI_neg, List.length_cons, List.length_nil, ↓reduceIte, va_rf_some, Int.reduceToNat, md_0, md_1, md_2, md_3, md_4, md_5, md_6, md_7, md_8, md_9, md_10, md_11, md_12, md_13, md_14, md_15, md_16, md_17, md_18, md_19, md_20, md_21, md_22, md_23, md_24, md_25, md_26, md_27, md_28, md_29, md_30, md_31, mu_0, mu_3, mu_7, mu_9, mu_12, mu_13, mu_14, mu_15, mu_16, mu_17, mu_18, mu_23, mu_24, mu_26, mu_27, mu_28, mu_29, i10, iI_eq, iI_lt, iI_cl, if_true, if_false, and_self, c]
      exact hQ g hg h13
theorem adv_num {c : Value} {e : Nat} {vE : Int} {g0 : Nat → Int} (hK : mK t) (hT : txH g0 A T) (hQ : ∀ g' : Nat → Int, (∀ k, k ≠ 13 → k ≠ 16 → g' k = g0 k) → g' 13 = e → g' 16 = vE → 0 ≤ vE → vE ≤ 1000 → Ev (d + 2) 88 141 [.ref 62, c] [] (t, up1 V 62 (mdR g'), A, P) Q) : ∀ (n j : Nat) (v : Int) (g : Nat → Int), j + n = T.length → fgE T n j = e → vF T n j v = vE → 0 ≤ v → v ≤ 1000 → (∀ k, k ≠ 13 → k ≠ 16 → g k = g0 k) → g 13 = j → g 16 = v → Ev (d + 2) 88 71 [.ref 62, c] [] (t, up1 V 62 (mdR g), A, P) Q := by
  have m0 := hK.1
  have hl := hT.2.1
  intro n
  induction n with
  | zero =>
    intro j v g hj he hv v0 v1 hg h13 h16
    have hT' : txH g A T := ⟨(hg 7 (by omega) (by omega)).trans hT.1, hT.2⟩
    simp only [fgE] at he
    simp only [vF] at hv
    subst he
    subst hv
    have hlt : ltT T j = -1 := by unfold ltT; rw [if_neg (by omega)]
    rw [x_88_71]
    simp (disch := first | assumption | omega | exact isB_z | exact isB_o | exact iI_in' (by assumption) (by omega) (by omega) | exact cat_int _ | exact cat_ref _ | exact cat_null | decide) only [↓x_88_72, ↓x_88_73, ↓x_88_76, ↓x_88_79, ↓x_88_81, ↓x_88_83, ↓x_88_86, up1_same, up1_ne, up1_up1, us_0, us_1, us_2, us_3, us_4, us_5, us_6, us_7, us_8, us_9, us_10, us_11, rw_zero, rw_succ, Option.toList_some, Option.toList_none, List.cons_append, List.nil_append, cat_int, cat_ref, cat_null, iI_add, iI_sub, iI_mul, iI_neg, List.length_cons, List.length_nil, ↓reduceIte, va_rf_some, Int.reduceToNat, md_0, md_1, md_2, md_3, md_4, md_5, md_6, md_7, md_8, md_9, md_10, md_11, md_12, md_13, md_14, md_15, md_16, md_17, md_18, md_19, md_20, md_21, md_22, md_23, md_24, md_25, md_26, md_27, md_28, md_29, md_30, md_31, mu_0, mu_3, mu_7, mu_9, mu_12, mu_13, mu_14, mu_15, mu_16, mu_17, mu_18, mu_23, mu_24, mu_26, mu_27, mu_28, mu_29, i10, iI_eq, iI_lt, iI_cl, if_true, if_false, and_self, h13, k_letterAt hK hT', hlt, k_in]
    simp
    exact hQ g hg h13 h16 v0 v1
  | succ n ih =>
    intro j v g hj he hv v0 v1 hg h13 h16
    have hT' : txH g A T := ⟨(hg 7 (by omega) (by omega)).trans hT.1, hT.2⟩
    rw [fgE_s] at he
    rw [vF_s] at hv
    have hlt : ltT T j = T.getD j 0 := by unfold ltT; rw [if_pos (by omega)]
    have hb := ltT_b hT j
    rw [hlt] at hb
    rw [x_88_71]
    simp (disch := first | assumption | omega | exact isB_z | exact isB_o | exact iI_in' (by assumption) (by omega) (by omega) | exact cat_int _ | exact cat_ref _ | exact cat_null | decide) only [↓x_88_72, ↓x_88_73, ↓x_88_76, ↓x_88_79, ↓x_88_81, ↓x_88_83, ↓x_88_86, up1_same, up1_ne, up1_up1, us_0, us_1, us_2, us_3, us_4, us_5, us_6, us_7, us_8, us_9, us_10, us_11, rw_zero, rw_succ, Option.toList_some, Option.toList_none, List.cons_append, List.nil_append, cat_int, cat_ref, cat_null, iI_add, iI_sub, iI_mul, iI_neg, List.length_cons, List.length_nil, ↓reduceIte, va_rf_some, Int.reduceToNat, md_0, md_1, md_2, md_3, md_4, md_5, md_6, md_7, md_8, md_9, md_10, md_11, md_12, md_13, md_14, md_15, md_16, md_17, md_18, md_19, md_20, md_21, md_22, md_23, md_24, md_25, md_26, md_27, md_28, md_29, md_30, md_31, mu_0, mu_3, mu_7, mu_9, mu_12, mu_13, mu_14, mu_15, mu_16, mu_17, mu_18, mu_23, mu_24, mu_26, mu_27, mu_28, mu_29, i10, iI_eq, iI_lt, iI_cl, if_true, if_false, and_self, h13, k_letterAt hK hT', hlt, k_in]
    by_cases f : 48 ≤ T.getD j 0 ∧ T.getD j 0 ≤ 57
    · have ff : fg T j := ⟨by omega, f⟩
      rw [if_pos ff] at he hv
      have ci : (j : Int) + 1 = ((j + 1 : Nat) : Int) := by omega
      by_cases c9 : 99 < v
      · rw [if_pos c9] at hv
        simp (disch := first | assumption | omega | exact isB_z | exact isB_o | exact iI_in' (by assumption) (by omega) (by omega) | exact cat_int _ | exact cat_ref _ | exact cat_null | decide) only [f, ↓x_88_89, ↓x_88_90, ↓x_88_91, ↓x_88_94, ↓x_88_96, ↓x_88_99, ↓x_88_100, ↓x_88_103, ↓x_88_106, ↓x_88_108, ↓x_88_109, ↓x_88_112, ↓x_88_113, ↓x_88_114, ↓x_88_115, ↓x_88_118, ↓x_88_121, ↓x_88_122, ↓x_88_124, ↓x_88_125, ↓x_88_128, ↓x_88_129, ↓x_88_130, ↓x_88_133, ↓x_88_134, ↓x_88_135, ↓x_88_138, up1_same, up1_ne, up1_up1, us_0, us_1, us_2, us_3, us_4, us_5, us_6, us_7, us_8, us_9, us_10, us_11, rw_zero, rw_succ, Option.toList_some, Option.toList_none, List.cons_append, List.nil_append, cat_int, cat_ref, cat_null, iI_add, iI_sub, iI_mul, iI_neg, List.length_cons, List.length_nil, ↓reduceIte, va_rf_some, Int.reduceToNat, md_0, md_1, md_2, md_3, md_4, md_5, md_6, md_7, md_8, md_9, md_10, md_11, md_12, md_13, md_14, md_15, md_16, md_17, md_18, md_19, md_20, md_21, md_22, md_23, md_24, md_25, md_26, md_27, md_28, md_29, md_30, md_31, mu_0, mu_3, mu_7, mu_9, mu_12, mu_13, mu_14, mu_15, mu_16, mu_17, mu_18, mu_23, mu_24, mu_26, mu_27, mu_28, mu_29, i10, iI_eq, iI_lt, iI_cl, if_true, if_false, and_self, h13, h16, c9, ci]
        exact ih (j + 1) v _ (by omega) he hv v0 v1 (fun k h1 h2 => by rw [up1_ne h1, up1_ne h2]; exact hg k h1 h2) (up1_same _ _ _) (by rw [up1_ne (by omega), up1_same])
      · rw [if_neg c9] at hv
        simp (disch := first | assumption | omega | exact isB_z | exact isB_o | exact iI_in' (by assumption) (by omega) (by omega) | exact cat_int _ | exact cat_ref _ | exact cat_null | decide) only [f, ↓x_88_89, ↓x_88_90, ↓x_88_91, ↓x_88_94, ↓x_88_96, ↓x_88_99, ↓x_88_100, ↓x_88_103, ↓x_88_106, ↓x_88_108, ↓x_88_109, ↓x_88_112, ↓x_88_113, ↓x_88_114, ↓x_88_115, ↓x_88_118, up1_same, up1_ne, up1_up1, us_0, us_1, us_2, us_3, us_4, us_5, us_6, us_7, us_8, us_9, us_10, us_11, rw_zero, rw_succ, Option.toList_some, Option.toList_none, List.cons_append, List.nil_append, cat_int, cat_ref, cat_null, iI_add, iI_sub, iI_mul, iI_neg, List.length_cons, List.length_nil, ↓reduceIte, va_rf_some, Int.reduceToNat, md_0, md_1, md_2, md_3, md_4, md_5, md_6, md_7, md_8, md_9, md_10, md_11, md_12, md_13, md_14, md_15, md_16, md_17, md_18, md_19, md_20, md_21, md_22, md_23, md_24, md_25, md_26, md_27, md_28, md_29, md_30, md_31, mu_0, mu_3, mu_7, mu_9, mu_12, mu_13, mu_14, mu_15, mu_16, mu_17, mu_18, mu_23, mu_24, mu_26, mu_27, mu_28, mu_29, i10, iI_eq, iI_lt, iI_cl, if_true, if_false, and_self, h13, h16, c9, k_letterAt hK hT', hlt]
        simp (disch := first | assumption | omega | exact isB_z | exact isB_o | exact iI_in' (by assumption) (by omega) (by omega) | exact cat_int _ | exact cat_ref _ | exact cat_null | decide) only [↓x_88_121, ↓x_88_122, ↓x_88_124, ↓x_88_125, ↓x_88_128, ↓x_88_129, ↓x_88_130, ↓x_88_133, ↓x_88_134, ↓x_88_135, ↓x_88_138, up1_same, up1_ne, up1_up1, us_0, us_1, us_2, us_3, us_4, us_5, us_6, us_7, us_8, us_9, us_10, us_11, rw_zero, rw_succ, Option.toList_some, Option.toList_none, List.cons_append, List.nil_append, cat_int, cat_ref, cat_null, iI_add, iI_sub, iI_mul, iI_neg, List.length_cons, List.length_nil, ↓reduceIte, va_rf_some, Int.reduceToNat, md_0, md_1, md_2, md_3, md_4, md_5, md_6, md_7, md_8, md_9, md_10, md_11, md_12, md_13, md_14, md_15, md_16, md_17, md_18, md_19, md_20, md_21, md_22, md_23, md_24, md_25, md_26, md_27, md_28, md_29, md_30, md_31, mu_0, mu_3, mu_7, mu_9, mu_12, mu_13, mu_14, mu_15, mu_16, mu_17, mu_18, mu_23, mu_24, mu_26, mu_27, mu_28, mu_29, i10, iI_eq, iI_lt, iI_cl, if_true, if_false, and_self, h13, ci]
        exact ih (j + 1) _ _ (by omega) he hv (by omega) (by omega) (fun k h1 h2 => by rw [up1_ne h1, up1_ne h2]; exact hg k h1 h2) (up1_same _ _ _) (by rw [up1_ne (by omega), up1_same])
    · have ff : ¬ fg T j := fun q => f q.2
      rw [if_neg ff] at he hv
      subst he
      subst hv
      simp (disch := first | assumption | omega | exact isB_z | exact isB_o | exact iI_in' (by assumption) (by omega) (by omega) | exact cat_int _ | exact cat_ref _ | exact cat_null | decide) only [f, up1_same, up1_ne, up1_up1, us_0, us_1, us_2, us_3, us_4, us_5, us_6, us_7, us_8, us_9, us_10, us_11, rw_zero, rw_succ, Option.toList_some, Option.toList_none, List.cons_append, List.nil_append, cat_int, cat_ref, cat_null, iI_add, iI_sub, iI_mul, iI_neg, List.length_cons, List.length_nil, ↓reduceIte, va_rf_some, Int.reduceToNat, md_0, md_1, md_2, md_3, md_4, md_5, md_6, md_7, md_8, md_9, md_10, md_11, md_12, md_13, md_14, md_15, md_16, md_17, md_18, md_19, md_20, md_21, md_22, md_23, md_24, md_25, md_26, md_27, md_28, md_29, md_30, md_31, mu_0, mu_3, mu_7, mu_9, mu_12, mu_13, mu_14, mu_15, mu_16, mu_17, mu_18, mu_23, mu_24, mu_26, mu_27, mu_28, mu_29, i10, iI_eq, iI_lt, iI_cl, if_true, if_false, and_self]
      exact hQ g hg h13 h16 v0 v1
/-- the token that begins at p stands in the model -/
def tkS (T : List Int) (p : Nat) (g : Nat → Int) : Prop := (g 13 = ((if p < T.length then tkE T p else T.length : Nat) : Int)) ∧ (g 14 = p) ∧ (g 15 = tkT T p) ∧ (p < T.length → tkT T p = 2 → g 16 = nuA T p (tkE T p)) ∧ (p < T.length → ¬ fg T p → g 16 = T.getD p 0) ∧ (-2147483648 ≤ g 16 ∧ g 16 < 2147483648)
theorem tkS.at' {T : List Int} {p : Nat} {g : Nat → Int} (h : tkS T p g) : g 13 = ((if p < T.length then tkE T p else T.length : Nat) : Int) := h.1
theorem tkS.pl {T : List Int} {p : Nat} {g : Nat → Int} (h : tkS T p g) : g 14 = p := h.2.1
theorem tkS.tk {T : List Int} {p : Nat} {g : Nat → Int} (h : tkS T p g) : g 15 = tkT T p := h.2.2.1
theorem tkS.vn {T : List Int} {p : Nat} {g : Nat → Int} (h : tkS T p g) : p < T.length → tkT T p = 2 → g 16 = nuA T p (tkE T p) := h.2.2.2.1
theorem tkS.vl {T : List Int} {p : Nat} {g : Nat → Int} (h : tkS T p g) : p < T.length → ¬ fg T p → g 16 = T.getD p 0 := h.2.2.2.2.1
theorem tkS.vb {T : List Int} {p : Nat} {g : Nat → Int} (h : tkS T p g) : -2147483648 ≤ g 16 ∧ g 16 < 2147483648 := h.2.2.2.2.2
set_option maxHeartbeats 400000 in
theorem k_advances {i : Nat} (hK : mK t) (hT : txH g A T) (hi : i ≤ T.length) (h13 : g 13 = i) (h16 : -2147483648 ≤ g 16 ∧ g 16 < 2147483648) (hQ : ∀ g' : Nat → Int, (∀ k, k < 13 ∨ 16 < k → g' k = g k) → tkS T (sk T i) g' → Q none (t, up1 V 62 (mdR g'), A, P)) : Call (d + 3) 88 [.ref 62] (t, up1 V 62 (mdR g), A, P) Q := by
  have m0 := hK.1
  have hl := hT.2.1
  rw [c_88]
  refine adv_skip (d := d + 1) (p := sk T i) hK hT (fun g1 q1 q2 => ?_) (T.length - i) i g (by omega) rfl (fun _ _ => rfl) h13
  have hb := sk_b hi
  generalize sk T i = p at *
  have hT1 : txH g1 A T := ⟨(q1 7 (by omega)).trans hT.1, hT.2⟩
  have hT2 : txH (up1 g1 14 p) A T := ⟨(up1_ne (by omega)).trans hT1.1, hT.2⟩
  have hlt := ltT_b hT p
  simp (disch := first | assumption | omega | exact isB_z | exact isB_o | exact iI_in' (by assumption) (by omega) (by omega) | exact cat_int _ | exact cat_ref _ | exact cat_null | decide) only [↓x_88_26, ↓x_88_27, ↓x_88_28, ↓x_88_31, ↓x_88_34, ↓x_88_35, ↓x_88_36, ↓x_88_39, up1_same, up1_ne, up1_up1, us_0, us_1, us_2, us_3, us_4, us_5, us_6, us_7, us_8, us_9, us_10, us_11, rw_zero, rw_succ, Option.toList_some, Option.toList_none, List.cons_append, List.nil_append, cat_int, cat_ref, cat_null, iI_add, iI_sub, iI_mul, iI_neg, List.length_cons, List.length_nil, ↓reduceIte, va_rf_some, Int.reduceToNat, md_0, md_1, md_2, md_3, md_4, md_5, md_6, md_7, md_8, md_9, md_10, md_11, md_12, md_13, md_14, md_15, md_16, md_17, md_18, md_19, md_20, md_21, md_22, md_23, md_24, md_25, md_26, md_27, md_28, md_29, md_30, md_31, mu_0, mu_3, mu_7, mu_9, mu_12, mu_13, mu_14, mu_15, mu_16, mu_17, mu_18, mu_23, mu_24, mu_26, mu_27, mu_28, mu_29, i10, iI_eq, iI_lt, iI_cl, if_true, if_false, and_self, q2, k_letterAt hK hT2]
  have hfr : ∀ k, k < 13 ∨ 16 < k → g1 k = g k := fun k hk => q1 k (by omega)
  by_cases c : p < T.length
  · have hl2 : ltT T p = T.getD p 0 := by unfold ltT; rw [if_pos c]
    rw [hl2] at hlt ⊢
    have e1 : ¬ T.getD p 0 < 0 := by have := (hT.2.2 p c).2; omega
    by_cases f : 48 ≤ T.getD p 0 ∧ T.getD p 0 ≤ 57
    · have ff : fg T p := ⟨c, f⟩
      simp (disch := first | assumption | omega | exact isB_z | exact isB_o | exact iI_in' (by assumption) (by omega) (by omega) | exact cat_int _ | exact cat_ref _ | exact cat_null | decide) only [↓x_88_42, ↓x_88_43, ↓x_88_44, ↓x_88_47, ↓x_88_48, ↓x_88_49, ↓x_88_52, ↓x_88_55, ↓x_88_56, ↓x_88_58, ↓x_88_60, ↓x_88_63, ↓x_88_66, ↓x_88_67, ↓x_88_68, up1_same, up1_ne, up1_up1, us_0, us_1, us_2, us_3, us_4, us_5, us_6, us_7, us_8, us_9, us_10, us_11, rw_zero, rw_succ, Option.toList_some, Option.toList_none, List.cons_append, List.nil_append, cat_int, cat_ref, cat_null, iI_add, iI_sub, iI_mul, iI_neg, List.length_cons, List.length_nil, ↓reduceIte, va_rf_some, Int.reduceToNat, md_0, md_1, md_2, md_3, md_4, md_5, md_6, md_7, md_8, md_9, md_10, md_11, md_12, md_13, md_14, md_15, md_16, md_17, md_18, md_19, md_20, md_21, md_22, md_23, md_24, md_25, md_26, md_27, md_28, md_29, md_30, md_31, mu_0, mu_3, mu_7, mu_9, mu_12, mu_13, mu_14, mu_15, mu_16, mu_17, mu_18, mu_23, mu_24, mu_26, mu_27, mu_28, mu_29, i10, iI_eq, iI_lt, iI_cl, if_true, if_false, and_self, e1, k_in, f]
      have hT3 : txH (up1 (up1 g1 14 p) 16 0) A T := ⟨(up1_ne (by omega)).trans hT2.1, hT.2⟩
      have hE : fgE T (T.length - p) p = tkE T p := by
        obtain ⟨n, hn⟩ : ∃ n, T.length - p = n + 1 := ⟨T.length - p - 1, by omega⟩
        have := fgE_b T n (p + 1) (by omega)
        unfold tkE
        rw [hn, fgE_s, if_pos ff, if_neg (by omega)]
      refine adv_num (d := d) (e := tkE T p) (vE := vF T (T.length - p) p 0) hK hT3 (fun g2 r1 r2 r3 r4 r5 => ?_) (T.length - p) p 0 _ (by omega) hE rfl (by omega) (by omega) (fun _ _ _ => rfl) (by rw [up1_ne (by omega), up1_ne (by omega)]; exact q2) (up1_same _ _ _)
      have hnu := nu_val ff
      have hkb := tkE_b c
      have r14 : g2 14 = p := by rw [r1 14 (by omega) (by omega), up1_ne (by omega), up1_same]
      have hfin : ∀ z : Int, z = tkT T p → Q none (t, up1 V 62 (mdR (up1 g2 15 z)), A, P) := fun z hz => by
        refine hQ _ (fun k hk => by rw [up1_ne (by omega), r1 k (by omega) (by omega), up1_ne (by omega), up1_ne (by omega)]; exact hfr k hk) ⟨?_, ?_, ?_, fun _ h2 => ?_, fun _ h2 => absurd ff h2, ?_⟩
        · rw [up1_ne (by omega), r2, if_pos c]
        · rw [up1_ne (by omega)]; exact r14
        · rw [up1_same]; exact hz
        · rw [up1_ne (by omega), r3]
          unfold tkT at h2
          rw [if_neg (by omega), if_pos ff] at h2
          have h1 := hnu.1
          split at h1
          · rw [if_pos h1] at h2; omega
          · exact h1.symm
        · rw [up1_ne (by omega), r3]; omega
      have htk : tkT T p = if nuA T p (tkE T p) = -1 then 4 else 2 := by unfold tkT; rw [if_neg (by omega), if_pos ff]
      generalize vF T (T.length - p) p 0 = vE at *
      simp (disch := first | assumption | omega | exact isB_z | exact isB_o | exact iI_in' (by assumption) (by omega) (by omega) | exact cat_int _ | exact cat_ref _ | exact cat_null | decide) only [↓x_88_141, ↓x_88_142, ↓x_88_143, ↓x_88_146, ↓x_88_148, up1_same, up1_ne, up1_up1, us_0, us_1, us_2, us_3, us_4, us_5, us_6, us_7, us_8, us_9, us_10, us_11, rw_zero, rw_succ, Option.toList_some, Option.toList_none, List.cons_append, List.nil_append, cat_int, cat_ref, cat_null, iI_add, iI_sub, iI_mul, iI_neg, List.length_cons, List.length_nil, ↓reduceIte, va_rf_some, Int.reduceToNat, md_0, md_1, md_2, md_3, md_4, md_5, md_6, md_7, md_8, md_9, md_10, md_11, md_12, md_13, md_14, md_15, md_16, md_17, md_18, md_19, md_20, md_21, md_22, md_23, md_24, md_25, md_26, md_27, md_28, md_29, md_30, md_31, mu_0, mu_3, mu_7, mu_9, mu_12, mu_13, mu_14, mu_15, mu_16, mu_17, mu_18, mu_23, mu_24, mu_26, mu_27, mu_28, mu_29, i10, iI_eq, iI_lt, iI_cl, if_true, if_false, and_self, r3]
      by_cases c1 : 99 < vE
      · rw [if_pos (Or.inl c1)] at hnu
        rw [if_pos c1]
        simp (disch := first | assumption | omega | exact isB_z | exact isB_o | exact iI_in' (by assumption) (by omega) (by omega) | exact cat_int _ | exact cat_ref _ | exact cat_null | decide) only [↓x_88_170, ↓x_88_171, ↓x_88_174, ↓x_88_175, ↓x_88_178, ↓x_88_227, up1_same, up1_ne, up1_up1, us_0, us_1, us_2, us_3, us_4, us_5, us_6, us_7, us_8, us_9, us_10, us_11, rw_zero, rw_succ, Option.toList_some, Option.toList_none, List.cons_append, List.nil_append, cat_int, cat_ref, cat_null, iI_add, iI_sub, iI_mul, iI_neg, List.length_cons, List.length_nil, ↓reduceIte, va_rf_some, Int.reduceToNat, md_0, md_1, md_2, md_3, md_4, md_5, md_6, md_7, md_8, md_9, md_10, md_11, md_12, md_13, md_14, md_15, md_16, md_17, md_18, md_19, md_20, md_21, md_22, md_23, md_24, md_25, md_26, md_27, md_28, md_29, md_30, md_31, mu_0, mu_3, mu_7, mu_9, mu_12, mu_13, mu_14, mu_15, mu_16, mu_17, mu_18, mu_23, mu_24, mu_26, mu_27, mu_28, mu_29, i10, iI_eq, iI_lt, iI_cl, if_true, if_false, and_self]
        exact hfin 4 (by rw [htk, if_pos hnu.1])
      · rw [if_neg c1]
        simp (disch := first | assumption | omega | exact isB_z | exact isB_o | exact iI_in' (by assumption) (by omega) (by omega) | exact cat_int _ | exact cat_ref _ | exact cat_null | decide) only [↓x_88_151, ↓x_88_152, ↓x_88_154, up1_same, up1_ne, up1_up1, us_0, us_1, us_2, us_3, us_4, us_5, us_6, us_7, us_8, us_9, us_10, us_11, rw_zero, rw_succ, Option.toList_some, Option.toList_none, List.cons_append, List.nil_append, cat_int, cat_ref, cat_null, iI_add, iI_sub, iI_mul, iI_neg, List.length_cons, List.length_nil, ↓reduceIte, va_rf_some, Int.reduceToNat, md_0, md_1, md_2, md_3, md_4, md_5, md_6, md_7, md_8, md_9, md_10, md_11, md_12, md_13, md_14, md_15, md_16, md_17, md_18, md_19, md_20, md_21, md_22, md_23, md_24, md_25, md_26, md_27, md_28, md_29, md_30, md_31, mu_0, mu_3, mu_7, mu_9, mu_12, mu_13, mu_14, mu_15, mu_16, mu_17, mu_18, mu_23, mu_24, mu_26, mu_27, mu_28, mu_29, i10, iI_eq, iI_lt, iI_cl, if_true, if_false, and_self]
        by_cases c2 : T.getD p 0 = 48
        · rw [if_pos c2]
          simp (disch := first | assumption | omega | exact isB_z | exact isB_o | exact iI_in' (by assumption) (by omega) (by omega) | exact cat_int _ | exact cat_ref _ | exact cat_null | decide) only [↓x_88_157, ↓x_88_158, ↓x_88_161, ↓x_88_162, ↓x_88_165, ↓x_88_166, ↓x_88_167, up1_same, up1_ne, up1_up1, us_0, us_1, us_2, us_3, us_4, us_5, us_6, us_7, us_8, us_9, us_10, us_11, rw_zero, rw_succ, Option.toList_some, Option.toList_none, List.cons_append, List.nil_append, cat_int, cat_ref, cat_null, iI_add, iI_sub, iI_mul, iI_neg, List.length_cons, List.length_nil, ↓reduceIte, va_rf_some, Int.reduceToNat, md_0, md_1, md_2, md_3, md_4, md_5, md_6, md_7, md_8, md_9, md_10, md_11, md_12, md_13, md_14, md_15, md_16, md_17, md_18, md_19, md_20, md_21, md_22, md_23, md_24, md_25, md_26, md_27, md_28, md_29, md_30, md_31, mu_0, mu_3, mu_7, mu_9, mu_12, mu_13, mu_14, mu_15, mu_16, mu_17, mu_18, mu_23, mu_24, mu_26, mu_27, mu_28, mu_29, i10, iI_eq, iI_lt, iI_cl, if_true, if_false, and_self, r2, r14]
          by_cases c3 : p + 1 < tkE T p
          · rw [if_pos (Or.inr ⟨c2, c3⟩)] at hnu
            rw [if_pos (show (1 : Int) < tkE T p - p by omega)]
            simp (disch := first | assumption | omega | exact isB_z | exact isB_o | exact iI_in' (by assumption) (by omega) (by omega) | exact cat_int _ | exact cat_ref _ | exact cat_null | decide) only [↓x_88_170, ↓x_88_171, ↓x_88_174, ↓x_88_175, ↓x_88_178, ↓x_88_227, up1_same, up1_ne, up1_up1, us_0, us_1, us_2, us_3, us_4, us_5, us_6, us_7, us_8, us_9, us_10, us_11, rw_zero, rw_succ, Option.toList_some, Option.toList_none, List.cons_append, List.nil_append, cat_int, cat_ref, cat_null, iI_add, iI_sub, iI_mul, iI_neg, List.length_cons, List.length_nil, ↓reduceIte, va_rf_some, Int.reduceToNat, md_0, md_1, md_2, md_3, md_4, md_5, md_6, md_7, md_8, md_9, md_10, md_11, md_12, md_13, md_14, md_15, md_16, md_17, md_18, md_19, md_20, md_21, md_22, md_23, md_24, md_25, md_26, md_27, md_28, md_29, md_30, md_31, mu_0, mu_3, mu_7, mu_9, mu_12, mu_13, mu_14, mu_15, mu_16, mu_17, mu_18, mu_23, mu_24, mu_26, mu_27, mu_28, mu_29, i10, iI_eq, iI_lt, iI_cl, if_true, if_false, and_self]
            exact hfin 4 (by rw [htk, if_pos hnu.1])
          · rw [if_neg (by omega)] at hnu
            rw [if_neg (show ¬ (1 : Int) < tkE T p - p by omega)]
            simp (disch := first | assumption | omega | exact isB_z | exact isB_o | exact iI_in' (by assumption) (by omega) (by omega) | exact cat_int _ | exact cat_ref _ | exact cat_null | decide) only [↓x_88_174, ↓x_88_175, ↓x_88_178, ↓x_88_227, up1_same, up1_ne, up1_up1, us_0, us_1, us_2, us_3, us_4, us_5, us_6, us_7, us_8, us_9, us_10, us_11, rw_zero, rw_succ, Option.toList_some, Option.toList_none, List.cons_append, List.nil_append, cat_int, cat_ref, cat_null, iI_add, iI_sub, iI_mul, iI_neg, List.length_cons, List.length_nil, ↓reduceIte, va_rf_some, Int.reduceToNat, md_0, md_1, md_2, md_3, md_4, md_5, md_6, md_7, md_8, md_9, md_10, md_11, md_12, md_13, md_14, md_15, md_16, md_17, md_18, md_19, md_20, md_21, md_22, md_23, md_24, md_25, md_26, md_27, md_28, md_29, md_30, md_31, mu_0, mu_3, mu_7, mu_9, mu_12, mu_13, mu_14, mu_15, mu_16, mu_17, mu_18, mu_23, mu_24, mu_26, mu_27, mu_28, mu_29, i10, iI_eq, iI_lt, iI_cl, if_true, if_false, and_self]
            exact hfin 2 (by rw [htk, if_neg (by omega)])
        · rw [if_neg (by omega)] at hnu
          rw [if_neg c2]
          simp (disch := first | assumption | omega | exact isB_z | exact isB_o | exact iI_in' (by assumption) (by omega) (by omega) | exact cat_int _ | exact cat_ref _ | exact cat_null | decide) only [↓x_88_174, ↓x_88_175, ↓x_88_178, ↓x_88_227, up1_same, up1_ne, up1_up1, us_0, us_1, us_2, us_3, us_4, us_5, us_6, us_7, us_8, us_9, us_10, us_11, rw_zero, rw_succ, Option.toList_some, Option.toList_none, List.cons_append, List.nil_append, cat_int, cat_ref, cat_null, iI_add, iI_sub, iI_mul, iI_neg, List.length_cons, List.length_nil, ↓reduceIte, va_rf_some, Int.reduceToNat, md_0, md_1, md_2, md_3, md_4, md_5, md_6, md_7, md_8, md_9, md_10, md_11, md_12, md_13, md_14, md_15, md_16, md_17, md_18, md_19, md_20, md_21, md_22, md_23, md_24, md_25, md_26, md_27, md_28, md_29, md_30, md_31, mu_0, mu_3, mu_7, mu_9, mu_12, mu_13, mu_14, mu_15, mu_16, mu_17, mu_18, mu_23, mu_24, mu_26, mu_27, mu_28, mu_29, i10, iI_eq, iI_lt, iI_cl, if_true, if_false, and_self]
          exact hfin 2 (by rw [htk, if_neg (by omega)])
    · have ff : ¬ fg T p := fun q => f q.2
      have hE : tkE T p = p + 1 := by
        obtain ⟨n, hn⟩ : ∃ n, T.length - p = n + 1 := ⟨T.length - p - 1, by omega⟩
        unfold tkE
        rw [hn, fgE_s, if_neg ff, if_pos rfl]
      have ci : (p : Int) + 1 = ((p + 1 : Nat) : Int) := by omega
      have hfin : ∀ z : Int, z = tkT T p → Q none (t, up1 V 62 (mdR (up1 (up1 (up1 (up1 g1 14 p) 13 ((p + 1 : Nat) : Int)) 16 (T.getD p 0)) 15 z)), A, P) := fun z hz => by
        refine hQ _ (fun k hk => by rw [up1_ne (by omega), up1_ne (by omega), up1_ne (by omega), up1_ne (by omega)]; exact hfr k hk) ⟨?_, ?_, ?_, fun _ h2 => ?_, fun _ h2 => ?_, ?_⟩
        · rw [up1_ne (by omega), up1_ne (by omega), up1_same, if_pos c, hE]
        · rw [up1_ne (by omega), up1_ne (by omega), up1_ne (by omega), up1_same]
        · rw [up1_same]; exact hz
        · unfold tkT at h2
          rw [if_neg (by omega), if_neg ff] at h2
          split at h2
          · omega
          · split at h2 <;> omega
        · rw [up1_ne (by omega), up1_same]
        · rw [up1_ne (by omega), up1_same]; omega
      have htk : tkT T p = if T.getD p 0 = 59 then 3 else if T.getD p 0 = 100 ∨ T.getD p 0 = 107 then 1 else 4 := by unfold tkT; rw [if_neg (by omega), if_neg ff]
      simp (disch := first | assumption | omega | exact isB_z | exact isB_o | exact iI_in' (by assumption) (by omega) (by omega) | exact cat_int _ | exact cat_ref _ | exact cat_null | decide) only [↓x_88_42, ↓x_88_43, ↓x_88_44, ↓x_88_47, ↓x_88_48, ↓x_88_49, ↓x_88_52, ↓x_88_55, ↓x_88_56, ↓x_88_58, ↓x_88_60, ↓x_88_63, ↓x_88_181, ↓x_88_182, ↓x_88_183, ↓x_88_186, ↓x_88_187, ↓x_88_188, ↓x_88_191, ↓x_88_192, ↓x_88_193, ↓x_88_196, ↓x_88_197, ↓x_88_198, ↓x_88_200, up1_same, up1_ne, up1_up1, us_0, us_1, us_2, us_3, us_4, us_5, us_6, us_7, us_8, us_9, us_10, us_11, rw_zero, rw_succ, Option.toList_some, Option.toList_none, List.cons_append, List.nil_append, cat_int, cat_ref, cat_null, iI_add, iI_sub, iI_mul, iI_neg, List.length_cons, List.length_nil, ↓reduceIte, va_rf_some, Int.reduceToNat, md_0, md_1, md_2, md_3, md_4, md_5, md_6, md_7, md_8, md_9, md_10, md_11, md_12, md_13, md_14, md_15, md_16, md_17, md_18, md_19, md_20, md_21, md_22, md_23, md_24, md_25, md_26, md_27, md_28, md_29, md_30, md_31, mu_0, mu_3, mu_7, mu_9, mu_12, mu_13, mu_14, mu_15, mu_16, mu_17, mu_18, mu_23, mu_24, mu_26, mu_27, mu_28, mu_29, i10, iI_eq, iI_lt, iI_cl, if_true, if_false, and_self, e1, k_in, f, q2, ci]
      by_cases c1 : T.getD p 0 = 59
      · rw [if_pos c1]
        simp (disch := first | assumption | omega | exact isB_z | exact isB_o | exact iI_in' (by assumption) (by omega) (by omega) | exact cat_int _ | exact cat_ref _ | exact cat_null | decide) only [↓x_88_203, ↓x_88_204, ↓x_88_207, ↓x_88_208, ↓x_88_210, ↓x_88_213, ↓x_88_214, ↓x_88_216, ↓x_88_219, ↓x_88_220, ↓x_88_223, ↓x_88_224, ↓x_88_227, up1_same, up1_ne, up1_up1, us_0, us_1, us_2, us_3, us_4, us_5, us_6, us_7, us_8, us_9, us_10, us_11, rw_zero, rw_succ, Option.toList_some, Option.toList_none, List.cons_append, List.nil_append, cat_int, cat_ref, cat_null, iI_add, iI_sub, iI_mul, iI_neg, List.length_cons, List.length_nil, ↓reduceIte, va_rf_some, Int.reduceToNat, md_0, md_1, md_2, md_3, md_4, md_5, md_6, md_7, md_8, md_9, md_10, md_11, md_12, md_13, md_14, md_15, md_16, md_17, md_18, md_19, md_20, md_21, md_22, md_23, md_24, md_25, md_26, md_27, md_28, md_29, md_30, md_31, mu_0, mu_3, mu_7, mu_9, mu_12, mu_13, mu_14, mu_15, mu_16, mu_17, mu_18, mu_23, mu_24, mu_26, mu_27, mu_28, mu_29, i10, iI_eq, iI_lt, iI_cl, if_true, if_false, and_self]
        exact hfin 3 (by rw [htk, if_pos c1])
      · rw [if_neg c1]
        simp (disch := first | assumption | omega | exact isB_z | exact isB_o | exact iI_in' (by assumption) (by omega) (by omega) | exact cat_int _ | exact cat_ref _ | exact cat_null | decide) only [↓x_88_207, ↓x_88_208, ↓x_88_210, ↓x_88_213, ↓x_88_214, ↓x_88_216, up1_same, up1_ne, up1_up1, us_0, us_1, us_2, us_3, us_4, us_5, us_6, us_7, us_8, us_9, us_10, us_11, rw_zero, rw_succ, Option.toList_some, Option.toList_none, List.cons_append, List.nil_append, cat_int, cat_ref, cat_null, iI_add, iI_sub, iI_mul, iI_neg, List.length_cons, List.length_nil, ↓reduceIte, va_rf_some, Int.reduceToNat, md_0, md_1, md_2, md_3, md_4, md_5, md_6, md_7, md_8, md_9, md_10, md_11, md_12, md_13, md_14, md_15, md_16, md_17, md_18, md_19, md_20, md_21, md_22, md_23, md_24, md_25, md_26, md_27, md_28, md_29, md_30, md_31, mu_0, mu_3, mu_7, mu_9, mu_12, mu_13, mu_14, mu_15, mu_16, mu_17, mu_18, mu_23, mu_24, mu_26, mu_27, mu_28, mu_29, i10, iI_eq, iI_lt, iI_cl, if_true, if_false, and_self]
        by_cases c2 : T.getD p 0 = 100
        · rw [if_pos c2]
          simp (disch := first | assumption | omega | exact isB_z | exact isB_o | exact iI_in' (by assumption) (by omega) (by omega) | exact cat_int _ | exact cat_ref _ | exact cat_null | decide) only [↓x_88_219, ↓x_88_220, ↓x_88_223, ↓x_88_224, ↓x_88_227, up1_same, up1_ne, up1_up1, us_0, us_1, us_2, us_3, us_4, us_5, us_6, us_7, us_8, us_9, us_10, us_11, rw_zero, rw_succ, Option.toList_some, Option.toList_none, List.cons_append, List.nil_append, cat_int, cat_ref, cat_null, iI_add, iI_sub, iI_mul, iI_neg, List.length_cons, List.length_nil, ↓reduceIte, va_rf_some, Int.reduceToNat, md_0, md_1, md_2, md_3, md_4, md_5, md_6, md_7, md_8, md_9, md_10, md_11, md_12, md_13, md_14, md_15, md_16, md_17, md_18, md_19, md_20, md_21, md_22, md_23, md_24, md_25, md_26, md_27, md_28, md_29, md_30, md_31, mu_0, mu_3, mu_7, mu_9, mu_12, mu_13, mu_14, mu_15, mu_16, mu_17, mu_18, mu_23, mu_24, mu_26, mu_27, mu_28, mu_29, i10, iI_eq, iI_lt, iI_cl, if_true, if_false, and_self]
          exact hfin 1 (by rw [htk, if_neg c1, if_pos (Or.inl c2)])
        · by_cases c3 : T.getD p 0 = 107
          · rw [if_neg c2, if_pos c3]
            simp (disch := first | assumption | omega | exact isB_z | exact isB_o | exact iI_in' (by assumption) (by omega) (by omega) | exact cat_int _ | exact cat_ref _ | exact cat_null | decide) only [↓x_88_219, ↓x_88_220, ↓x_88_223, ↓x_88_224, ↓x_88_227, up1_same, up1_ne, up1_up1, us_0, us_1, us_2, us_3, us_4, us_5, us_6, us_7, us_8, us_9, us_10, us_11, rw_zero, rw_succ, Option.toList_some, Option.toList_none, List.cons_append, List.nil_append, cat_int, cat_ref, cat_null, iI_add, iI_sub, iI_mul, iI_neg, List.length_cons, List.length_nil, ↓reduceIte, va_rf_some, Int.reduceToNat, md_0, md_1, md_2, md_3, md_4, md_5, md_6, md_7, md_8, md_9, md_10, md_11, md_12, md_13, md_14, md_15, md_16, md_17, md_18, md_19, md_20, md_21, md_22, md_23, md_24, md_25, md_26, md_27, md_28, md_29, md_30, md_31, mu_0, mu_3, mu_7, mu_9, mu_12, mu_13, mu_14, mu_15, mu_16, mu_17, mu_18, mu_23, mu_24, mu_26, mu_27, mu_28, mu_29, i10, iI_eq, iI_lt, iI_cl, if_true, if_false, and_self]
            exact hfin 1 (by rw [htk, if_neg c1, if_pos (Or.inr c3)])
          · rw [if_neg c2, if_neg c3]
            simp (disch := first | assumption | omega | exact isB_z | exact isB_o | exact iI_in' (by assumption) (by omega) (by omega) | exact cat_int _ | exact cat_ref _ | exact cat_null | decide) only [↓x_88_219, ↓x_88_220, ↓x_88_223, ↓x_88_224, ↓x_88_227, up1_same, up1_ne, up1_up1, us_0, us_1, us_2, us_3, us_4, us_5, us_6, us_7, us_8, us_9, us_10, us_11, rw_zero, rw_succ, Option.toList_some, Option.toList_none, List.cons_append, List.nil_append, cat_int, cat_ref, cat_null, iI_add, iI_sub, iI_mul, iI_neg, List.length_cons, List.length_nil, ↓reduceIte, va_rf_some, Int.reduceToNat, md_0, md_1, md_2, md_3, md_4, md_5, md_6, md_7, md_8, md_9, md_10, md_11, md_12, md_13, md_14, md_15, md_16, md_17, md_18, md_19, md_20, md_21, md_22, md_23, md_24, md_25, md_26, md_27, md_28, md_29, md_30, md_31, mu_0, mu_3, mu_7, mu_9, mu_12, mu_13, mu_14, mu_15, mu_16, mu_17, mu_18, mu_23, mu_24, mu_26, mu_27, mu_28, mu_29, i10, iI_eq, iI_lt, iI_cl, if_true, if_false, and_self]
            exact hfin 4 (by rw [htk, if_neg c1, if_neg (fun q => q.elim c2 c3)])
  · have hl2 : ltT T p = -1 := by unfold ltT; rw [if_neg c]
    have hpe : p = T.length := by omega
    rw [hl2]
    simp (disch := first | assumption | omega | exact isB_z | exact isB_o | exact iI_in' (by assumption) (by omega) (by omega) | exact cat_int _ | exact cat_ref _ | exact cat_null | decide) only [↓x_88_42, ↓x_88_43, ↓x_88_44, ↓x_88_47, ↓x_88_48, ↓x_88_49, ↓x_88_52, ↓x_88_227, up1_same, up1_ne, up1_up1, us_0, us_1, us_2, us_3, us_4, us_5, us_6, us_7, us_8, us_9, us_10, us_11, rw_zero, rw_succ, Option.toList_some, Option.toList_none, List.cons_append, List.nil_append, cat_int, cat_ref, cat_null, iI_add, iI_sub, iI_mul, iI_neg, List.length_cons, List.length_nil, ↓reduceIte, va_rf_some, Int.reduceToNat, md_0, md_1, md_2, md_3, md_4, md_5, md_6, md_7, md_8, md_9, md_10, md_11, md_12, md_13, md_14, md_15, md_16, md_17, md_18, md_19, md_20, md_21, md_22, md_23, md_24, md_25, md_26, md_27, md_28, md_29, md_30, md_31, mu_0, mu_3, mu_7, mu_9, mu_12, mu_13, mu_14, mu_15, mu_16, mu_17, mu_18, mu_23, mu_24, mu_26, mu_27, mu_28, mu_29, i10, iI_eq, iI_lt, iI_cl, if_true, if_false, and_self, Int.reduceNeg, Int.reduceLT]
    refine hQ _ (fun k hk => by rw [up1_ne (by omega), up1_ne (by omega)]; exact hfr k hk) ⟨?_, ?_, ?_, fun h2 => absurd h2 c, fun h2 => absurd h2 c, ?_⟩
    · rw [up1_ne (by omega), up1_ne (by omega), q2, if_neg c, hpe]
    · rw [up1_ne (by omega), up1_same]
    · rw [up1_same]; unfold tkT; rw [if_pos (by omega)]
    · rw [up1_ne (by omega), up1_ne (by omega), q1 16 (by omega)]; exact h16
end
