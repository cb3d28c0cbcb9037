/-! THE TEXT, as the class reads it -/
abbrev fg (T : List Int) (i : Nat) : Prop := i < T.length ∧ 48 ≤ T.getD i 0 ∧ T.getD i 0 ≤ 57
def fgE (T : List Int) : Nat → Nat → Nat
  | 0, i => i
  | n + 1, i => if fg T i then fgE T n (i + 1) else i
/-- where the token ends that begins there -/
def tkE (T : List Int) (i : Nat) : Nat := if fgE T (T.length - i) i = i then i + 1 else fgE T (T.length - i) i
def nuA (T : List Int) (i en : Nat) : Int := if ¬ fg T i ∨ i + 2 < en then -1 else if en = i + 1 then T.getD i 0 - 48 else if T.getD i 0 = 48 ∨ ¬ fg T (i + 1) then -1 else 10 * (T.getD i 0 - 48) + T.getD (i + 1) 0 - 48
def afN (D : List Int) (n b k : Int) : Int × List Int := if n < 0 ∨ k ≤ n ∨ 40 ≤ D.length then (-1, D) else (3, D ++ [b + n])
def afT (T : List Int) (due : Int) (i en : Nat) (D : List Int) : Int × List Int :=
  if due = 0 then (if T.getD i 0 = 100 then (1, D) else if T.getD i 0 = 107 then (2, D) else (-1, D))
  else if due = 1 then afN D (nuA T i en) 0 31 else if due = 2 then afN D (nuA T i en) 31 3 else if T.getD i 0 = 59 then (0, D) else (-1, D)
/-- fault's place or -1, and what was told -/
def fpF (T : List Int) : Nat → Int → Nat → List Int → Int × List Int
  | 0, due, _, D => (if due = 0 ∧ 0 < D.length then -1 else T.length, D)
  | n + 1, due, i, D => if i < T.length then (if T.getD i 0 = 32 then fpF T n due (i + 1) D else if (afT T due i (tkE T i) D).1 = -1 then (i, (afT T due i (tkE T i) D).2) else fpF T n (afT T due i (tkE T i) D).1 (tkE T i) (afT T due i (tkE T i) D).2) else (if due = 0 ∧ 0 < D.length then -1 else T.length, D)
def tH (A : Nat → Nat → Int32) (T : List Int) : Prop := T.length ≤ 120 ∧ ∀ i : Nat, i < T.length → A 11 i = iI (T.getD i 0) ∧ 0 ≤ T.getD i 0 ∧ T.getD i 0 ≤ 255
theorem fgE_b (T : List Int) : ∀ (n i : Nat), i + n = T.length → i ≤ fgE T n i ∧ fgE T n i ≤ T.length := by
  intro n
  induction n with
  | zero => intro i h; simp only [fgE]; omega
  | succ n ih =>
    intro i h
    simp only [fgE]
    split
    · have := ih (i + 1) (by omega); omega
    · omega
theorem tkE_b {T : List Int} {i : Nat} (h : i < T.length) : i < tkE T i ∧ tkE T i ≤ T.length := by
  have := fgE_b T (T.length - i) i (by omega)
  unfold tkE
  split <;> omega
/-- where the figures end that begin there -/
def gE (T : List Int) (j : Nat) : Nat := fgE T (T.length - j) j
theorem gE_y {T : List Int} {j : Nat} (h : fg T j) : gE T j = gE T (j + 1) := by
  have hj := h.1
  unfold gE
  obtain ⟨n, hn⟩ : ∃ n, T.length - j = n + 1 := ⟨T.length - j - 1, by omega⟩
  have hn2 : T.length - (j + 1) = n := by omega
  rw [hn, hn2]
  simp only [fgE]
  rw [if_pos h]
theorem gE_n {T : List Int} {j : Nat} (h : ¬ fg T j) : gE T j = j := by
  unfold gE
  generalize T.length - j = n
  cases n with
  | zero => rfl
  | succ n => simp only [fgE]; rw [if_neg h]
theorem gE_b {T : List Int} {j : Nat} (h : j ≤ T.length) : j ≤ gE T j ∧ gE T j ≤ T.length := fgE_b T (T.length - j) j (by omega)
theorem gE_in {T : List Int} : ∀ (n j : Nat), j + n = T.length → (∀ q, j ≤ q → q < gE T j → fg T q) ∧ ¬ fg T (gE T j) := by
  intro n
  induction n with
  | zero =>
    intro j hj
    have hn : ¬ fg T j := fun q => by have := q.1; omega
    rw [gE_n hn]
    exact ⟨fun q h1 h2 => by omega, hn⟩
  | succ n ih =>
    intro j hj
    by_cases c : fg T j
    · rw [gE_y c]
      have := ih (j + 1) (by omega)
      refine ⟨fun q h1 h2 => ?_, this.2⟩
      by_cases g : q = j
      · subst g; exact c
      · exact this.1 q (by omega) h2
    · rw [gE_n c]
      exact ⟨fun q h1 h2 => by omega, c⟩
theorem tkE_y {T : List Int} {i : Nat} (h : fg T i) : tkE T i = gE T (i + 1) := by
  have hi := h.1
  have h1 := gE_b (T := T) (j := i + 1) (by omega)
  have h2 := gE_y h
  show (if gE T i = i then i + 1 else gE T i) = _
  rw [h2, if_neg (by omega)]
theorem tkE_n {T : List Int} {i : Nat} (h : ¬ fg T i) : tkE T i = i + 1 := by
  show (if gE T i = i then i + 1 else gE T i) = _
  rw [gE_n h, if_pos rfl]
/-- a token's end: all behind its first letter are figures that follow figures; what stands at the end does not go on with it -/
theorem tkE_in {T : List Int} {i : Nat} (h : i < T.length) : (∀ q, i + 1 ≤ q → q < tkE T i → fg T q ∧ fg T (q - 1)) ∧ ¬ (fg T (tkE T i) ∧ fg T (tkE T i - 1)) := by
  by_cases c : fg T i
  · rw [tkE_y c]
    have := gE_in (T := T) (T.length - (i + 1)) (i + 1) (by omega)
    refine ⟨fun q h1 h2 => ⟨this.1 q h1 h2, ?_⟩, fun q => this.2 q.1⟩
    by_cases g : q - 1 = i
    · rw [g]; exact c
    · exact this.1 (q - 1) (by omega) (by omega)
  · rw [tkE_n c]
    exact ⟨fun q h1 h2 => by omega, fun q => c (by have := q.2; simpa using this)⟩
/-- the letter there, or -1; the figure there, or -1 -/
def ltA (T : List Int) (z : Int) : Int := if 0 ≤ z ∧ z < T.length then T.getD z.toNat 0 else -1
def fiA (T : List Int) (z : Int) : Int := if 48 ≤ ltA T z ∧ ltA T z ≤ 57 then ltA T z - 48 else -1
theorem ltA_at {T : List Int} {i : Nat} (h : i < T.length) : ltA T i = T.getD i 0 := by
  unfold ltA
  rw [if_pos (by omega), Int.toNat_natCast]
theorem fiA_y {T : List Int} {i : Nat} (h : fg T i) : fiA T i = T.getD i 0 - 48 := by
  unfold fiA
  rw [ltA_at h.1, if_pos h.2]
theorem fiA_n {T : List Int} {i : Nat} (h : ¬ fg T i) : fiA T i = -1 := by
  unfold fiA
  by_cases c : i < T.length
  · rw [ltA_at c, if_neg (fun q => h ⟨c, q⟩)]
  · have : ltA T i = -1 := by unfold ltA; rw [if_neg (by omega)]
    rw [this, if_neg (by omega)]
theorem fiA_m (T : List Int) : fiA T (-1) = -1 := by
  unfold fiA
  have : ltA T (-1) = -1 := by unfold ltA; rw [if_neg (by omega)]
  rw [this, if_neg (by omega)]
theorem fiA_b (T : List Int) (z : Int) : -1 ≤ fiA T z ∧ fiA T z ≤ 9 := by
  unfold fiA
  split <;> omega
section
variable {d : Nat} {t : mL} {V : Nat → Nat → Value} {A : Nat → Nat → Int32} {P : Nat → Nat → Option Nat} {μ : mM} {Q : Option Value → mM → Prop} {T : List Int} {it u : Int}
theorem ltA_b (hH : tH A T) (z : Int) : -1 ≤ ltA T z ∧ ltA T z ≤ 255 := by
  unfold ltA
  split
  · next c => have := hH.2 z.toNat (by omega); omega
  · omega
theorem k_letterE {z : Int} (hK : exK t) (hx : V 3 = exR T.length it u) (hH : tH A T) (hz : -1 ≤ z ∧ z ≤ 200) : Call (d + 1) 71 [.ref 3, .int (iI z)] (t, V, A, P) Q = Q (some (.int (iI (ltA T z)))) (t, V, A, P) := by
  have k0 := hK.1
  obtain ⟨k11, k11l⟩ := hK.2.2.2.2.2.1
  have hl := hH.1
  unfold ltA
  by_cases c : z < 0
  · rw [if_neg (show ¬ (0 ≤ z ∧ z < T.length) by omega)]
    simp (disch := first | assumption | omega | exact isB_z | exact isB_o | exact iI_in' (by assumption) (by omega) (by omega) | exact cat_int _ | exact cat_ref _ | exact cat_null | decide) only [c_71, ↓x_71_0, ↓x_71_1, ↓x_71_4, ↓x_71_5, ↓x_71_6, ↓x_71_9, ↓x_71_12, ↓x_71_13, ↓x_71_15, ↓x_71_18, ↓x_71_19, ↓x_71_22, ↓x_71_23, ↓x_71_24, ↓x_71_27, ↓x_71_28, up1_same, up1_ne, up1_up1, us_0, us_1, us_2, us_3, us_4, us_5, us_6, us_7, us_8, us_9, us_10, us_11, rw_zero, rw_succ, Option.toList_some, Option.toList_none, List.cons_append, List.nil_append, cat_int, cat_ref, cat_null, iI_add, iI_sub, iI_mul, iI_neg, List.length_cons, List.length_nil, ↓reduceIte, va_rf_some, exR, wiR, wkW, wkR, orR, rdR, iI_lt, iI_n0, c, if_true]
  · by_cases c1 : z < T.length
    · obtain ⟨h1, h2, h3⟩ := hH.2 z.toNat (by omega)
      have e3 : z < 120 := by omega
      rw [if_pos (show 0 ≤ z ∧ z < T.length by omega)]
      simp (disch := first | assumption | omega | exact isB_z | exact isB_o | exact iI_in' (by assumption) (by omega) (by omega) | exact cat_int _ | exact cat_ref _ | exact cat_null | decide) only [c_71, ↓x_71_0, ↓x_71_1, ↓x_71_4, ↓x_71_5, ↓x_71_6, ↓x_71_9, ↓x_71_12, ↓x_71_13, ↓x_71_15, ↓x_71_18, ↓x_71_19, ↓x_71_22, ↓x_71_23, ↓x_71_24, ↓x_71_27, ↓x_71_28, up1_same, up1_ne, up1_up1, us_0, us_1, us_2, us_3, us_4, us_5, us_6, us_7, us_8, us_9, us_10, us_11, rw_zero, rw_succ, Option.toList_some, Option.toList_none, List.cons_append, List.nil_append, cat_int, cat_ref, cat_null, iI_add, iI_sub, iI_mul, iI_neg, List.length_cons, List.length_nil, ↓reduceIte, va_rf_some, exR, wiR, wkW, wkR, orR, rdR, hx, iI_lt, iI_n0, c, c1, e3, if_true, if_false, iI_cl, h1]
    · rw [if_neg (show ¬ (0 ≤ z ∧ z < T.length) by omega)]
      simp (disch := first | assumption | omega | exact isB_z | exact isB_o | exact iI_in' (by assumption) (by omega) (by omega) | exact cat_int _ | exact cat_ref _ | exact cat_null | decide) only [c_71, ↓x_71_0, ↓x_71_1, ↓x_71_4, ↓x_71_5, ↓x_71_6, ↓x_71_9, ↓x_71_12, ↓x_71_13, ↓x_71_15, ↓x_71_18, ↓x_71_19, ↓x_71_22, ↓x_71_23, ↓x_71_24, ↓x_71_27, ↓x_71_28, up1_same, up1_ne, up1_up1, us_0, us_1, us_2, us_3, us_4, us_5, us_6, us_7, us_8, us_9, us_10, us_11, rw_zero, rw_succ, Option.toList_some, Option.toList_none, List.cons_append, List.nil_append, cat_int, cat_ref, cat_null, iI_add, iI_sub, iI_mul, iI_neg, List.length_cons, List.length_nil, ↓reduceIte, va_rf_some, exR, wiR, wkW, wkR, orR, rdR, hx, iI_lt, iI_n0, c, c1, if_true, if_false]
theorem k_figureAt {z : Int} (hK : exK t) (hx : V 3 = exR T.length it u) (hH : tH A T) (hz : -1 ≤ z ∧ z ≤ 200) : Call (d + 2) 70 [.ref 3, .int (iI z)] (t, V, A, P) Q = Q (some (.int (iI (fiA T z)))) (t, V, A, P) := by
  have k0 := hK.1
  have hb := ltA_b hH z
  simp (disch := first | assumption | omega | exact isB_z | exact isB_o | exact iI_in' (by assumption) (by omega) (by omega) | exact cat_int _ | exact cat_ref _ | exact cat_null | decide) only [c_70, ↓x_70_0, ↓x_70_1, ↓x_70_2, up1_same, up1_ne, up1_up1, us_0, us_1, us_2, us_3, us_4, us_5, us_6, us_7, us_8, us_9, us_10, us_11, rw_zero, rw_succ, Option.toList_some, Option.toList_none, List.cons_append, List.nil_append, cat_int, cat_ref, cat_null, iI_add, iI_sub, iI_mul, iI_neg, List.length_cons, List.length_nil, ↓reduceIte, va_rf_some, exR, wiR, wkW, wkR, orR, rdR, k_letterE hK hx hH hz]
  unfold fiA
  generalize ltA T z = y at hb ⊢
  by_cases c : y < 48
  · rw [if_neg (show ¬ (48 ≤ y ∧ y ≤ 57) by omega)]
    simp (disch := first | assumption | omega | exact isB_z | exact isB_o | exact iI_in' (by assumption) (by omega) (by omega) | exact cat_int _ | exact cat_ref _ | exact cat_null | decide) only [↓x_70_5, ↓x_70_6, ↓x_70_7, ↓x_70_9, ↓x_70_12, ↓x_70_13, ↓x_70_15, ↓x_70_18, ↓x_70_19, ↓x_70_21, ↓x_70_22, ↓x_70_25, ↓x_70_26, up1_same, up1_ne, up1_up1, us_0, us_1, us_2, us_3, us_4, us_5, us_6, us_7, us_8, us_9, us_10, us_11, rw_zero, rw_succ, Option.toList_some, Option.toList_none, List.cons_append, List.nil_append, cat_int, cat_ref, cat_null, iI_add, iI_sub, iI_mul, iI_neg, List.length_cons, List.length_nil, ↓reduceIte, va_rf_some, exR, wiR, wkW, wkR, orR, rdR, iI_lt, c, if_true]
  · by_cases c1 : 57 < y
    · rw [if_neg (show ¬ (48 ≤ y ∧ y ≤ 57) by omega)]
      simp (disch := first | assumption | omega | exact isB_z | exact isB_o | exact iI_in' (by assumption) (by omega) (by omega) | exact cat_int _ | exact cat_ref _ | exact cat_null | decide) only [↓x_70_5, ↓x_70_6, ↓x_70_7, ↓x_70_9, ↓x_70_12, ↓x_70_13, ↓x_70_15, ↓x_70_18, ↓x_70_19, ↓x_70_21, ↓x_70_22, ↓x_70_25, ↓x_70_26, up1_same, up1_ne, up1_up1, us_0, us_1, us_2, us_3, us_4, us_5, us_6, us_7, us_8, us_9, us_10, us_11, rw_zero, rw_succ, Option.toList_some, Option.toList_none, List.cons_append, List.nil_append, cat_int, cat_ref, cat_null, iI_add, iI_sub, iI_mul, iI_neg, List.length_cons, List.length_nil, ↓reduceIte, va_rf_some, exR, wiR, wkW, wkR, orR, rdR, iI_lt, c, c1, if_true, if_false]
    · rw [if_pos (show 48 ≤ y ∧ y ≤ 57 by omega)]
      simp (disch := first | assumption | omega | exact isB_z | exact isB_o | exact iI_in' (by assumption) (by omega) (by omega) | exact cat_int _ | exact cat_ref _ | exact cat_null | decide) only [↓x_70_5, ↓x_70_6, ↓x_70_7, ↓x_70_9, ↓x_70_12, ↓x_70_13, ↓x_70_15, ↓x_70_18, ↓x_70_19, ↓x_70_21, ↓x_70_22, ↓x_70_25, ↓x_70_26, up1_same, up1_ne, up1_up1, us_0, us_1, us_2, us_3, us_4, us_5, us_6, us_7, us_8, us_9, us_10, us_11, rw_zero, rw_succ, Option.toList_some, Option.toList_none, List.cons_append, List.nil_append, cat_int, cat_ref, cat_null, iI_add, iI_sub, iI_mul, iI_neg, List.length_cons, List.length_nil, ↓reduceIte, va_rf_some, exR, wiR, wkW, wkR, orR, rdR, iI_lt, c, c1, if_false]
theorem k_startN {i : Nat} (hK : exK t) (hx : V 3 = exR T.length it u) (hH : tH A T) (hi : i < T.length) (h : T.getD i 0 = 32 ∨ fg T i ∧ 1 ≤ i ∧ fg T (i - 1)) : Call (d + 3) 66 [.ref 3, .int (iI i)] (t, V, A, P) Q = Q (some (.int (iI 0))) (t, V, A, P) := by
  have k0 := hK.1
  have hl := hH.1
  simp (disch := first | assumption | omega | exact isB_z | exact isB_o | exact iI_in' (by assumption) (by omega) (by omega) | exact cat_int _ | exact cat_ref _ | exact cat_null | decide) only [c_66, ↓x_66_0, ↓x_66_1, ↓x_66_2, ↓x_66_5, up1_same, up1_ne, up1_up1, us_0, us_1, us_2, us_3, us_4, us_5, us_6, us_7, us_8, us_9, us_10, us_11, rw_zero, rw_succ, Option.toList_some, Option.toList_none, List.cons_append, List.nil_append, cat_int, cat_ref, cat_null, iI_add, iI_sub, iI_mul, iI_neg, List.length_cons, List.length_nil, ↓reduceIte, va_rf_some, exR, wiR, wkW, wkR, orR, rdR, k_letterE hK hx hH (show -1 ≤ (i : Int) ∧ (i : Int) ≤ 200 by omega), ltA_at hi]
  have hb := hH.2 i hi
  generalize T.getD i 0 = y at h hb ⊢
  by_cases c : y = 32
  · simp (disch := first | assumption | omega | exact isB_z | exact isB_o | exact iI_in' (by assumption) (by omega) (by omega) | exact cat_int _ | exact cat_ref _ | exact cat_null | decide) only [↓x_66_7, ↓x_66_10, ↓x_66_11, ↓x_66_12, ↓x_66_15, ↓x_66_18, ↓x_66_19, ↓x_66_20, ↓x_66_21, ↓x_66_22, ↓x_66_25, ↓x_66_28, ↓x_66_29, ↓x_66_32, ↓x_66_33, up1_same, up1_ne, up1_up1, us_0, us_1, us_2, us_3, us_4, us_5, us_6, us_7, us_8, us_9, us_10, us_11, rw_zero, rw_succ, Option.toList_some, Option.toList_none, List.cons_append, List.nil_append, cat_int, cat_ref, cat_null, iI_add, iI_sub, iI_mul, iI_neg, List.length_cons, List.length_nil, ↓reduceIte, va_rf_some, exR, wiR, wkW, wkR, orR, rdR, iI_eq, c, if_true]
  · obtain ⟨f1, i1, f2⟩ := h.resolve_left c
    have e1 := fiA_y f1
    have e2 := fiA_y f2
    have g1 := f1.2
    have g2 := f2.2
    have ci : ((i : Nat) : Int) - 1 = ((i - 1 : Nat) : Int) := by omega
    have n1 : ¬ T.getD i 0 - 48 < 0 := by omega
    have n2 : ¬ T.getD (i - 1) 0 - 48 < 0 := by omega
    simp (disch := first | assumption | omega | exact isB_z | exact isB_o | exact iI_in' (by assumption) (by omega) (by omega) | exact cat_int _ | exact cat_ref _ | exact cat_null | decide) only [↓x_66_7, ↓x_66_10, ↓x_66_11, ↓x_66_12, up1_same, up1_ne, up1_up1, us_0, us_1, us_2, us_3, us_4, us_5, us_6, us_7, us_8, us_9, us_10, us_11, rw_zero, rw_succ, Option.toList_some, Option.toList_none, List.cons_append, List.nil_append, cat_int, cat_ref, cat_null, iI_add, iI_sub, iI_mul, iI_neg, List.length_cons, List.length_nil, ↓reduceIte, va_rf_some, exR, wiR, wkW, wkR, orR, rdR, iI_eq, c, if_false, k_figureAt hK hx hH (show -1 ≤ (i : Int) ∧ (i : Int) ≤ 200 by omega), e1]
    simp (disch := first | assumption | omega | exact isB_z | exact isB_o | exact iI_in' (by assumption) (by omega) (by omega) | exact cat_int _ | exact cat_ref _ | exact cat_null | decide) only [↓x_66_15, ↓x_66_18, ↓x_66_19, ↓x_66_20, ↓x_66_21, ↓x_66_22, up1_same, up1_ne, up1_up1, us_0, us_1, us_2, us_3, us_4, us_5, us_6, us_7, us_8, us_9, us_10, us_11, rw_zero, rw_succ, Option.toList_some, Option.toList_none, List.cons_append, List.nil_append, cat_int, cat_ref, cat_null, iI_add, iI_sub, iI_mul, iI_neg, List.length_cons, List.length_nil, ↓reduceIte, va_rf_some, exR, wiR, wkW, wkR, orR, rdR, iI_lt, n1, if_false, ci, k_figureAt hK hx hH (show -1 ≤ ((i - 1 : Nat) : Int) ∧ ((i - 1 : Nat) : Int) ≤ 200 by omega), e2]
    simp (disch := first | assumption | omega | exact isB_z | exact isB_o | exact iI_in' (by assumption) (by omega) (by omega) | exact cat_int _ | exact cat_ref _ | exact cat_null | decide) only [↓x_66_25, ↓x_66_28, ↓x_66_29, ↓x_66_32, ↓x_66_33, up1_same, up1_ne, up1_up1, us_0, us_1, us_2, us_3, us_4, us_5, us_6, us_7, us_8, us_9, us_10, us_11, rw_zero, rw_succ, Option.toList_some, Option.toList_none, List.cons_append, List.nil_append, cat_int, cat_ref, cat_null, iI_add, iI_sub, iI_mul, iI_neg, List.length_cons, List.length_nil, ↓reduceIte, va_rf_some, exR, wiR, wkW, wkR, orR, rdR, iI_lt, n2, if_false]
theorem k_startY {i : Nat} (hK : exK t) (hx : V 3 = exR T.length it u) (hH : tH A T) (hi : i < T.length) (h : ¬ T.getD i 0 = 32) (hf : ¬ (fg T i ∧ 1 ≤ i ∧ fg T (i - 1))) : Call (d + 3) 66 [.ref 3, .int (iI i)] (t, V, A, P) Q = Q (some (.int (iI 1))) (t, V, A, P) := by
  have k0 := hK.1
  have hl := hH.1
  have hb := hH.2 i hi
  simp (disch := first | assumption | omega | exact isB_z | exact isB_o | exact iI_in' (by assumption) (by omega) (by omega) | exact cat_int _ | exact cat_ref _ | exact cat_null | decide) only [c_66, ↓x_66_0, ↓x_66_1, ↓x_66_2, ↓x_66_5, ↓x_66_7, up1_same, up1_ne, up1_up1, us_0, us_1, us_2, us_3, us_4, us_5, us_6, us_7, us_8, us_9, us_10, us_11, rw_zero, rw_succ, Option.toList_some, Option.toList_none, List.cons_append, List.nil_append, cat_int, cat_ref, cat_null, iI_add, iI_sub, iI_mul, iI_neg, List.length_cons, List.length_nil, ↓reduceIte, va_rf_some, exR, wiR, wkW, wkR, orR, rdR, k_letterE hK hx hH (show -1 ≤ (i : Int) ∧ (i : Int) ≤ 200 by omega), ltA_at hi, iI_eq, h, if_false]
  by_cases c : fg T i
  · have e1 := fiA_y c
    have g1 := c.2
    have n1 : ¬ T.getD i 0 - 48 < 0 := by omega
    have e2 : fiA T ((i : Int) - 1) = -1 := by
      by_cases c1 : 1 ≤ i
      · have ci : ((i : Nat) : Int) - 1 = ((i - 1 : Nat) : Int) := by omega
        rw [ci]
        exact fiA_n (fun q => hf ⟨c, c1, q⟩)
      · have ci : ((i : Nat) : Int) - 1 = -1 := by omega
        rw [ci]
        exact fiA_m T
    simp (disch := first | assumption | omega | exact isB_z | exact isB_o | exact iI_in' (by assumption) (by omega) (by omega) | exact cat_int _ | exact cat_ref _ | exact cat_null | decide) only [↓x_66_10, ↓x_66_11, ↓x_66_12, up1_same, up1_ne, up1_up1, us_0, us_1, us_2, us_3, us_4, us_5, us_6, us_7, us_8, us_9, us_10, us_11, rw_zero, rw_succ, Option.toList_some, Option.toList_none, List.cons_append, List.nil_append, cat_int, cat_ref, cat_null, iI_add, iI_sub, iI_mul, iI_neg, List.length_cons, List.length_nil, ↓reduceIte, va_rf_some, exR, wiR, wkW, wkR, orR, rdR, k_figureAt hK hx hH (show -1 ≤ (i : Int) ∧ (i : Int) ≤ 200 by omega), e1]
    simp (disch := first | assumption | omega | exact isB_z | exact isB_o | exact iI_in' (by assumption) (by omega) (by omega) | exact cat_int _ | exact cat_ref _ | exact cat_null | decide) only [↓x_66_15, ↓x_66_18, ↓x_66_19, ↓x_66_20, ↓x_66_21, ↓x_66_22, up1_same, up1_ne, up1_up1, us_0, us_1, us_2, us_3, us_4, us_5, us_6, us_7, us_8, us_9, us_10, us_11, rw_zero, rw_succ, Option.toList_some, Option.toList_none, List.cons_append, List.nil_append, cat_int, cat_ref, cat_null, iI_add, iI_sub, iI_mul, iI_neg, List.length_cons, List.length_nil, ↓reduceIte, va_rf_some, exR, wiR, wkW, wkR, orR, rdR, iI_lt, n1, if_false, k_figureAt hK hx hH (show -1 ≤ (i : Int) - 1 ∧ (i : Int) - 1 ≤ 200 by omega), e2]
    simp (disch := first | assumption | omega | exact isB_z | exact isB_o | exact iI_in' (by assumption) (by omega) (by omega) | exact cat_int _ | exact cat_ref _ | exact cat_null | decide) only [↓x_66_25, ↓x_66_28, ↓x_66_29, ↓x_66_32, ↓x_66_33, up1_same, up1_ne, up1_up1, us_0, us_1, us_2, us_3, us_4, us_5, us_6, us_7, us_8, us_9, us_10, us_11, rw_zero, rw_succ, Option.toList_some, Option.toList_none, List.cons_append, List.nil_append, cat_int, cat_ref, cat_null, iI_add, iI_sub, iI_mul, iI_neg, List.length_cons, List.length_nil, ↓reduceIte, va_rf_some, exR, wiR, wkW, wkR, orR, rdR, iI_lt]
    rw [if_pos (show (-1 : Int) < 0 by omega)]
  · have e1 := fiA_n c
    simp (disch := first | assumption | omega | exact isB_z | exact isB_o | exact iI_in' (by assumption) (by omega) (by omega) | exact cat_int _ | exact cat_ref _ | exact cat_null | decide) only [↓x_66_10, ↓x_66_11, ↓x_66_12, up1_same, up1_ne, up1_up1, us_0, us_1, us_2, us_3, us_4, us_5, us_6, us_7, us_8, us_9, us_10, us_11, rw_zero, rw_succ, Option.toList_some, Option.toList_none, List.cons_append, List.nil_append, cat_int, cat_ref, cat_null, iI_add, iI_sub, iI_mul, iI_neg, List.length_cons, List.length_nil, ↓reduceIte, va_rf_some, exR, wiR, wkW, wkR, orR, rdR, k_figureAt hK hx hH (show -1 ≤ (i : Int) ∧ (i : Int) ≤ 200 by omega), e1]
    simp (disch := first | assumption | omega | exact isB_z | exact isB_o | exact iI_in' (by assumption) (by omega) (by omega) | exact cat_int _ | exact cat_ref _ | exact cat_null | decide) only [↓x_66_15, ↓x_66_28, ↓x_66_29, ↓x_66_32, ↓x_66_33, up1_same, up1_ne, up1_up1, us_0, us_1, us_2, us_3, us_4, us_5, us_6, us_7, us_8, us_9, us_10, us_11, rw_zero, rw_succ, Option.toList_some, Option.toList_none, List.cons_append, List.nil_append, cat_int, cat_ref, cat_null, iI_add, iI_sub, iI_mul, iI_neg, List.length_cons, List.length_nil, ↓reduceIte, va_rf_some, exR, wiR, wkW, wkR, orR, rdR, iI_lt]
    rw [if_pos (show (-1 : Int) < 0 by omega)]
end
