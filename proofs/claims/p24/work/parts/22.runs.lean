/-! RUNS AND LEVELS -/
/-- the walk behind so many bits of the wire -/
def stF (X : aW) : Nat → wS
  | 0 => (-1, -9, 0, 0)
  | b + 1 => wst (stF X b) (btA X.2 b)
theorem stF_OK (X : aW) : ∀ b : Nat, wOK b (stF X b) := by
  intro b
  induction b with
  | zero => simp only [stF, wOK]; omega
  | succ b ih =>
    have h := btA_b X.2 b
    exact wst_OK ih h.1 h.2
theorem fq_29 {V : Nat → Nat → Value} {A : Nat → Nat → Int32} {s : Int} {W : wS} (hs : scr V) : fq V (up1 V 29 (wkW s W)) A A := by
  refine ⟨fun a ha => up1_ne (by omega), fun _ _ => rfl, ?_, ?_, fun j hj => ?_, ⟨s, W, up1_same _ _ _⟩⟩
  · obtain ⟨f, u, m, fi, br, bl, lo, q1, q2, q3⟩ := hs.1
    exact ⟨f, u, m, fi, br, bl, lo, by rw [up1_ne (by omega)]; exact q1, by rw [up1_ne (by omega)]; exact q2, by rw [up1_ne (by omega)]; exact q3⟩
  · rw [up1_ne (by omega)]; exact hs.2.1
  · rw [up1_ne (by omega)]; exact hs.2.2.1 j hj
def lvF (X : aW) (x : Int) : Nat → Int × Int × Int
  | 0 => (0, -2000000, -2000000)
  | b + 1 => if (stF X (b + 1)).1 = x then ((lvF X x b).1 + 1, (lvF X x b).2.1, (lvF X x b).2.2)
    else if x < (stF X (b + 1)).1 ∧ ((lvF X x b).2.1 = -2000000 ∨ (stF X (b + 1)).1 < (lvF X x b).2.1) then ((lvF X x b).1, (stF X (b + 1)).1, (lvF X x b).2.2)
    else if (stF X (b + 1)).1 < x ∧ ((lvF X x b).2.2 = -2000000 ∨ (lvF X x b).2.2 < (stF X (b + 1)).1) then ((lvF X x b).1, (lvF X x b).2.1, (stF X (b + 1)).1)
    else lvF X x b
def aLevel (X : aW) (x w : Int) : Int := if -300 ≤ x ∧ x ≤ 300 ∧ 0 ≤ w ∧ w ≤ 2 then (if w = 0 then (lvF X x (X.1.length * 6)).1 else if w = 1 then (lvF X x (X.1.length * 6)).2.1 else (lvF X x (X.1.length * 6)).2.2) else -1000000
theorem lvF_b (X : aW) (x : Int) : ∀ b : Nat, b ≤ 192 → 0 ≤ (lvF X x b).1 ∧ (lvF X x b).1 ≤ b ∧ (-2000000 ≤ (lvF X x b).2.1 ∧ (lvF X x b).2.1 ≤ 200) ∧ -2000000 ≤ (lvF X x b).2.2 ∧ (lvF X x b).2.2 ≤ 200 := by
  intro b
  induction b with
  | zero => intro _; simp only [lvF]; omega
  | succ b ih =>
    intro hb
    have h1 := ih (by omega)
    have h2 := stF_OK X (b + 1)
    have h3 := h2.1
    have h4 := h2.2.1
    simp only [lvF]
    generalize lvF X x b = z at *
    generalize (stF X (b + 1)).1 = y at *
    split
    · simp only; omega
    · split
      · simp only; omega
      · split
        · simp only; omega
        · omega
section
variable {d : Nat} {t : mL} {V : Nat → Nat → Value} {A : Nat → Nat → Int32} {P : Nat → Nat → Option Nat} {μ : mM} {Q : Option Value → mM → Prop} {S : aS} {e : Nat → Nat}
theorem run_loop (hK : exK t) (h : RX V A P S e) : ∀ (n b : Nat), b + n = S.X.1.length * 6 → Ev (d + 3) 64 10 [.ref 3, .int (iI b)] [] (t, up1 V 29 (wkW (-1) (stF S.X b)), A, P) Q = Q (some (.int (iI (stF S.X (S.X.1.length * 6)).2.2.2))) (t, up1 V 29 (wkW (-1) (stF S.X (S.X.1.length * 6))), A, P) := by
  obtain ⟨it, hx⟩ := h.ob
  have k0 := hK.1
  have k4 := hK.2.1.1
  have k29 := hK.2.2.2.2.2.2.2.2.2.1
  have hX := h.wo.1
  have hw := h.wi.1
  intro n
  induction n with
  | zero =>
    intro b hb
    have hb' : b = S.X.1.length * 6 := by omega
    rw [x_64_10, ← hb']
    have e1 : ¬ (b : Int) < S.X.1.length * 6 := by omega
    simp (disch := first | assumption | omega | exact isB_z | exact isB_o | exact iI_in' (by assumption) (by omega) (by omega) | exact cat_int _ | exact cat_ref _ | exact cat_null | decide) only [↓x_64_11, ↓x_64_12, ↓x_64_15, up1_same, up1_ne, up1_up1, us_0, us_1, us_2, us_3, us_4, us_5, us_6, us_7, us_8, us_9, us_10, us_11, rw_zero, rw_succ, Option.toList_some, Option.toList_none, List.cons_append, List.nil_append, cat_int, cat_ref, cat_null, iI_add, iI_sub, iI_mul, iI_neg, List.length_cons, List.length_nil, ↓reduceIte, va_rf_some, exR, wiR, wkW, wkR, orR, rdR, hx, k_bits k4 (show (up1 V 29 (wkW (-1) (stF S.X b))) 4 = _ from (up1_ne (by omega)).trans hw)]
    simp (disch := first | assumption | omega | exact isB_z | exact isB_o | exact iI_in' (by assumption) (by omega) (by omega) | exact cat_int _ | exact cat_ref _ | exact cat_null | decide) only [↓x_64_18, ↓x_64_42, ↓x_64_43, ↓x_64_46, ↓x_64_49, up1_same, up1_ne, up1_up1, us_0, us_1, us_2, us_3, us_4, us_5, us_6, us_7, us_8, us_9, us_10, us_11, rw_zero, rw_succ, Option.toList_some, Option.toList_none, List.cons_append, List.nil_append, cat_int, cat_ref, cat_null, iI_add, iI_sub, iI_mul, iI_neg, List.length_cons, List.length_nil, ↓reduceIte, va_rf_some, exR, wiR, wkW, wkR, orR, rdR, hx, iI_lt, e1, if_false]
  | succ n ih =>
    intro b hb
    rw [x_64_10]
    have e1 : (b : Int) < S.X.1.length * 6 := by omega
    have hb2 := btA_b S.X.2 b
    have ci : ((b : Nat) : Int) + 1 = ((b + 1 : Nat) : Int) := by omega
    simp (disch := first | assumption | omega | exact isB_z | exact isB_o | exact iI_in' (by assumption) (by omega) (by omega) | exact cat_int _ | exact cat_ref _ | exact cat_null | decide) only [↓x_64_11, ↓x_64_12, ↓x_64_15, up1_same, up1_ne, up1_up1, us_0, us_1, us_2, us_3, us_4, us_5, us_6, us_7, us_8, us_9, us_10, us_11, rw_zero, rw_succ, Option.toList_some, Option.toList_none, List.cons_append, List.nil_append, cat_int, cat_ref, cat_null, iI_add, iI_sub, iI_mul, iI_neg, List.length_cons, List.length_nil, ↓reduceIte, va_rf_some, exR, wiR, wkW, wkR, orR, rdR, hx, k_bits k4 (show (up1 V 29 (wkW (-1) (stF S.X b))) 4 = _ from (up1_ne (by omega)).trans hw)]
    simp (disch := first | assumption | omega | exact isB_z | exact isB_o | exact iI_in' (by assumption) (by omega) (by omega) | exact cat_int _ | exact cat_ref _ | exact cat_null | decide) only [↓x_64_18, ↓x_64_21, ↓x_64_22, ↓x_64_25, ↓x_64_26, ↓x_64_29, ↓x_64_30, up1_same, up1_ne, up1_up1, us_0, us_1, us_2, us_3, us_4, us_5, us_6, us_7, us_8, us_9, us_10, us_11, rw_zero, rw_succ, Option.toList_some, Option.toList_none, List.cons_append, List.nil_append, cat_int, cat_ref, cat_null, iI_add, iI_sub, iI_mul, iI_neg, List.length_cons, List.length_nil, ↓reduceIte, va_rf_some, exR, wiR, wkW, wkR, orR, rdR, hx, iI_lt, e1, if_true]
    rw [k_bitAt hK.2.1 (wiH_eq h.wi (up1_ne (by omega)) rfl rfl rfl) h.wo (by omega) e1]
    simp (disch := first | assumption | omega | exact isB_z | exact isB_o | exact iI_in' (by assumption) (by omega) (by omega) | exact cat_int _ | exact cat_ref _ | exact cat_null | decide) only [↓x_64_33, up1_same, up1_ne, up1_up1, us_0, us_1, us_2, us_3, us_4, us_5, us_6, us_7, us_8, us_9, us_10, us_11, rw_zero, rw_succ, Option.toList_some, Option.toList_none, List.cons_append, List.nil_append, cat_int, cat_ref, cat_null, iI_add, iI_sub, iI_mul, iI_neg, List.length_cons, List.length_nil, ↓reduceIte, va_rf_some, exR, wiR, wkW, wkR, orR, rdR]
    rw [k_step k29 (up1_same _ _ _) (stF_OK S.X b) (by omega) hb2.1 hb2.2]
    simp (disch := first | assumption | omega | exact isB_z | exact isB_o | exact iI_in' (by assumption) (by omega) (by omega) | exact cat_int _ | exact cat_ref _ | exact cat_null | decide) only [↓x_64_36, ↓x_64_39, up1_same, up1_ne, up1_up1, us_0, us_1, us_2, us_3, us_4, us_5, us_6, us_7, us_8, us_9, us_10, us_11, rw_zero, rw_succ, Option.toList_some, Option.toList_none, List.cons_append, List.nil_append, cat_int, cat_ref, cat_null, iI_add, iI_sub, iI_mul, iI_neg, List.length_cons, List.length_nil, ↓reduceIte, va_rf_some, exR, wiR, wkW, wkR, orR, rdR, ci]
    exact ih (b + 1) (by omega)
theorem k_longestRun (hK : exK t) (h : RX V A P S e) : Call (d + 4) 64 [.ref 3] (t, V, A, P) Q = Q (some (.int (iI (stF S.X (S.X.1.length * 6)).2.2.2))) (t, up1 V 29 (wkW (-1) (stF S.X (S.X.1.length * 6))), A, P) := by
  obtain ⟨it, hx⟩ := h.ob
  have k0 := hK.1
  have k29 := hK.2.2.2.2.2.2.2.2.2.1
  obtain ⟨s, W, h29⟩ := h.sc.2.2.2
  simp (disch := first | assumption | omega | exact isB_z | exact isB_o | exact iI_in' (by assumption) (by omega) (by omega) | exact cat_int _ | exact cat_ref _ | exact cat_null | decide) only [c_64, ↓x_64_0, ↓x_64_1, ↓x_64_4, ↓x_64_5, ↓x_64_8, ↓x_64_9, up1_same, up1_ne, up1_up1, us_0, us_1, us_2, us_3, us_4, us_5, us_6, us_7, us_8, us_9, us_10, us_11, rw_zero, rw_succ, Option.toList_some, Option.toList_none, List.cons_append, List.nil_append, cat_int, cat_ref, cat_null, iI_add, iI_sub, iI_mul, iI_neg, List.length_cons, List.length_nil, ↓reduceIte, va_rf_some, exR, wiR, wkW, wkR, orR, rdR, hx, k_start k29 h29]
  exact run_loop hK h (S.X.1.length * 6) 0 (by omega)
set_option maxHeartbeats 400000 in
theorem level_loop {x w : Int} (hK : exK t) (h : RX V A P S e) (hx1 : -300 ≤ x ∧ x ≤ 300) (hw1 : 0 ≤ w ∧ w ≤ 2) : ∀ (n b : Nat) (a7 : Value), b + n = S.X.1.length * 6 → Ev (d + 3) 55 47 [.ref 3, .int (iI x), .int (iI w), .int (iI (lvF S.X x b).1), .int (iI (lvF S.X x b).2.1), .int (iI (lvF S.X x b).2.2), .int (iI b), a7] [] (t, up1 V 29 (wkW (-1) (stF S.X b)), A, P) Q = Q (some (.int (iI (aLevel S.X x w)))) (t, up1 V 29 (wkW (-1) (stF S.X (S.X.1.length * 6))), A, P) := by
  obtain ⟨it, hx⟩ := h.ob
  have k0 := hK.1
  have k4 := hK.2.1.1
  have k29 := hK.2.2.2.2.2.2.2.2.2.1
  have hX := h.wo.1
  have hw := h.wi.1
  intro n
  induction n with
  | zero =>
    intro b a7 hb
    have hb' : b = S.X.1.length * 6 := by omega
    have hsp : aLevel S.X x w = if w = 0 then (lvF S.X x b).1 else if w = 1 then (lvF S.X x b).2.1 else (lvF S.X x b).2.2 := by
      unfold aLevel
      rw [if_pos (by omega), ← hb']
    rw [x_55_47, ← hb', hsp]
    have e1 : ¬ (b : Int) < S.X.1.length * 6 := by omega
    simp (disch := first | assumption | omega | exact isB_z | exact isB_o | exact iI_in' (by assumption) (by omega) (by omega) | exact cat_int _ | exact cat_ref _ | exact cat_null | decide) only [↓x_55_49, ↓x_55_50, ↓x_55_53, up1_same, up1_ne, up1_up1, us_0, us_1, us_2, us_3, us_4, us_5, us_6, us_7, us_8, us_9, us_10, us_11, rw_zero, rw_succ, Option.toList_some, Option.toList_none, List.cons_append, List.nil_append, cat_int, cat_ref, cat_null, iI_add, iI_sub, iI_mul, iI_neg, List.length_cons, List.length_nil, ↓reduceIte, va_rf_some, exR, wiR, wkW, wkR, orR, rdR, hx, k_bits k4 (show (up1 V 29 (wkW (-1) (stF S.X b))) 4 = _ from (up1_ne (by omega)).trans hw)]
    simp (disch := first | assumption | omega | exact isB_z | exact isB_o | exact iI_in' (by assumption) (by omega) (by omega) | exact cat_int _ | exact cat_ref _ | exact cat_null | decide) only [↓x_55_56, ↓x_55_153, ↓x_55_154, ↓x_55_157, ↓x_55_158, ↓x_55_159, ↓x_55_160, ↓x_55_161, ↓x_55_164, ↓x_55_166, ↓x_55_169, ↓x_55_171, up1_same, up1_ne, up1_up1, us_0, us_1, us_2, us_3, us_4, us_5, us_6, us_7, us_8, us_9, us_10, us_11, rw_zero, rw_succ, Option.toList_some, Option.toList_none, List.cons_append, List.nil_append, cat_int, cat_ref, cat_null, iI_add, iI_sub, iI_mul, iI_neg, List.length_cons, List.length_nil, ↓reduceIte, va_rf_some, exR, wiR, wkW, wkR, orR, rdR, hx, iI_lt, iI_eq, iI_n0, e1, if_false]
    by_cases w0 : w = 0
    · simp only [w0, if_true]
    · by_cases w1 : w = 1
      · simp only [w1, if_true]; simp
      · simp only [w0, w1, if_false]
  | succ n ih =>
    intro b a7 hb
    rw [x_55_47]
    have e1 : (b : Int) < S.X.1.length * 6 := by omega
    have hb2 := btA_b S.X.2 b
    have ci : ((b : Nat) : Int) + 1 = ((b + 1 : Nat) : Int) := by omega
    have hn := stF_OK S.X (b + 1)
    have hl := lvF_b S.X x b (by omega)
    simp (disch := first | assumption | omega | exact isB_z | exact isB_o | exact iI_in' (by assumption) (by omega) (by omega) | exact cat_int _ | exact cat_ref _ | exact cat_null | decide) only [↓x_55_49, ↓x_55_50, ↓x_55_53, up1_same, up1_ne, up1_up1, us_0, us_1, us_2, us_3, us_4, us_5, us_6, us_7, us_8, us_9, us_10, us_11, rw_zero, rw_succ, Option.toList_some, Option.toList_none, List.cons_append, List.nil_append, cat_int, cat_ref, cat_null, iI_add, iI_sub, iI_mul, iI_neg, List.length_cons, List.length_nil, ↓reduceIte, va_rf_some, exR, wiR, wkW, wkR, orR, rdR, hx, k_bits k4 (show (up1 V 29 (wkW (-1) (stF S.X b))) 4 = _ from (up1_ne (by omega)).trans hw)]
    simp (disch := first | assumption | omega | exact isB_z | exact isB_o | exact iI_in' (by assumption) (by omega) (by omega) | exact cat_int _ | exact cat_ref _ | exact cat_null | decide) only [↓x_55_56, ↓x_55_59, ↓x_55_60, ↓x_55_63, ↓x_55_64, ↓x_55_67, ↓x_55_69, up1_same, up1_ne, up1_up1, us_0, us_1, us_2, us_3, us_4, us_5, us_6, us_7, us_8, us_9, us_10, us_11, rw_zero, rw_succ, Option.toList_some, Option.toList_none, List.cons_append, List.nil_append, cat_int, cat_ref, cat_null, iI_add, iI_sub, iI_mul, iI_neg, List.length_cons, List.length_nil, ↓reduceIte, va_rf_some, exR, wiR, wkW, wkR, orR, rdR, hx, iI_lt, e1, if_true]
    rw [k_bitAt hK.2.1 (wiH_eq h.wi (up1_ne (by omega)) rfl rfl rfl) h.wo (by omega) e1]
    simp (disch := first | assumption | omega | exact isB_z | exact isB_o | exact iI_in' (by assumption) (by omega) (by omega) | exact cat_int _ | exact cat_ref _ | exact cat_null | decide) only [↓x_55_72, up1_same, up1_ne, up1_up1, us_0, us_1, us_2, us_3, us_4, us_5, us_6, us_7, us_8, us_9, us_10, us_11, rw_zero, rw_succ, Option.toList_some, Option.toList_none, List.cons_append, List.nil_append, cat_int, cat_ref, cat_null, iI_add, iI_sub, iI_mul, iI_neg, List.length_cons, List.length_nil, ↓reduceIte, va_rf_some, exR, wiR, wkW, wkR, orR, rdR]
    rw [k_step k29 (up1_same _ _ _) (stF_OK S.X b) (by omega) hb2.1 hb2.2]
    have ih' := fun a7 => ih (b + 1) a7 (by omega)
    have n1 := hn.1
    have n2 := hn.2.1
    simp only [lvF] at ih'
    have es : stF S.X (b + 1) = wst (stF S.X b) (btA S.X.2 b) := rfl
    rw [← es]
    clear hn es
    generalize lvF S.X x b = z at *
    generalize stF S.X (b + 1) = y at *
    simp (disch := first | assumption | omega | exact isB_z | exact isB_o | exact iI_in' (by assumption) (by omega) (by omega) | exact cat_int _ | exact cat_ref _ | exact cat_null | decide) only [↓x_55_75, ↓x_55_76, ↓x_55_79, ↓x_55_82, ↓x_55_84, ↓x_55_86, ↓x_55_87, up1_same, up1_ne, up1_up1, us_0, us_1, us_2, us_3, us_4, us_5, us_6, us_7, us_8, us_9, us_10, us_11, rw_zero, rw_succ, Option.toList_some, Option.toList_none, List.cons_append, List.nil_append, cat_int, cat_ref, cat_null, iI_add, iI_sub, iI_mul, iI_neg, List.length_cons, List.length_nil, ↓reduceIte, va_rf_some, exR, wiR, wkW, wkR, orR, rdR, hx, iI_eq]
    by_cases c1 : y.1 = x
    · rw [if_pos c1]
      simp only [if_pos c1] at ih'
      simp (disch := first | assumption | omega | exact isB_z | exact isB_o | exact iI_in' (by assumption) (by omega) (by omega) | exact cat_int _ | exact cat_ref _ | exact cat_null | decide) only [↓x_55_90, ↓x_55_93, ↓x_55_147, ↓x_55_150, up1_same, up1_ne, up1_up1, us_0, us_1, us_2, us_3, us_4, us_5, us_6, us_7, us_8, us_9, us_10, us_11, rw_zero, rw_succ, Option.toList_some, Option.toList_none, List.cons_append, List.nil_append, cat_int, cat_ref, cat_null, iI_add, iI_sub, iI_mul, iI_neg, List.length_cons, List.length_nil, ↓reduceIte, va_rf_some, exR, wiR, wkW, wkR, orR, rdR, ci]
      exact ih' _
    · rw [if_neg c1]
      simp only [if_neg c1] at ih'
      simp (disch := first | assumption | omega | exact isB_z | exact isB_o | exact iI_in' (by assumption) (by omega) (by omega) | exact cat_int _ | exact cat_ref _ | exact cat_null | decide) only [↓x_55_96, ↓x_55_98, ↓x_55_99, up1_same, up1_ne, up1_up1, us_0, us_1, us_2, us_3, us_4, us_5, us_6, us_7, us_8, us_9, us_10, us_11, rw_zero, rw_succ, Option.toList_some, Option.toList_none, List.cons_append, List.nil_append, cat_int, cat_ref, cat_null, iI_add, iI_sub, iI_mul, iI_neg, List.length_cons, List.length_nil, ↓reduceIte, va_rf_some, exR, wiR, wkW, wkR, orR, rdR, iI_lt, iI_le]
      by_cases c2 : x < y.1
      · have c3 : ¬ y.1 < x := by omega
        simp (disch := first | assumption | omega | exact isB_z | exact isB_o | exact iI_in' (by assumption) (by omega) (by omega) | exact cat_int _ | exact cat_ref _ | exact cat_null | decide) only [c2, c3, if_true, true_and, false_and, if_false] at ih' ⊢
        simp (disch := first | assumption | omega | exact isB_z | exact isB_o | exact iI_in' (by assumption) (by omega) (by omega) | exact cat_int _ | exact cat_ref _ | exact cat_null | decide) only [↓x_55_102, ↓x_55_104, ↓x_55_106, up1_same, up1_ne, up1_up1, us_0, us_1, us_2, us_3, us_4, us_5, us_6, us_7, us_8, us_9, us_10, us_11, rw_zero, rw_succ, Option.toList_some, Option.toList_none, List.cons_append, List.nil_append, cat_int, cat_ref, cat_null, iI_add, iI_sub, iI_mul, iI_neg, List.length_cons, List.length_nil, ↓reduceIte, va_rf_some, exR, wiR, wkW, wkR, orR, rdR, iI_eq]
        by_cases c4 : z.2.1 = -2000000
        · simp (disch := first | assumption | omega | exact isB_z | exact isB_o | exact iI_in' (by assumption) (by omega) (by omega) | exact cat_int _ | exact cat_ref _ | exact cat_null | decide) only [c4, true_or, if_true] at ih' ⊢
          simp (disch := first | assumption | omega | exact isB_z | exact isB_o | exact iI_in' (by assumption) (by omega) (by omega) | exact cat_int _ | exact cat_ref _ | exact cat_null | decide) only [↓x_55_116, ↓x_55_118, ↓x_55_120, ↓x_55_147, ↓x_55_150, up1_same, up1_ne, up1_up1, us_0, us_1, us_2, us_3, us_4, us_5, us_6, us_7, us_8, us_9, us_10, us_11, rw_zero, rw_succ, Option.toList_some, Option.toList_none, List.cons_append, List.nil_append, cat_int, cat_ref, cat_null, iI_add, iI_sub, iI_mul, iI_neg, List.length_cons, List.length_nil, ↓reduceIte, va_rf_some, exR, wiR, wkW, wkR, orR, rdR, ci]
          exact ih' _
        · simp (disch := first | assumption | omega | exact isB_z | exact isB_o | exact iI_in' (by assumption) (by omega) (by omega) | exact cat_int _ | exact cat_ref _ | exact cat_null | decide) only [c4, false_or, if_false] at ih' ⊢
          simp (disch := first | assumption | omega | exact isB_z | exact isB_o | exact iI_in' (by assumption) (by omega) (by omega) | exact cat_int _ | exact cat_ref _ | exact cat_null | decide) only [↓x_55_109, ↓x_55_111, ↓x_55_113, up1_same, up1_ne, up1_up1, us_0, us_1, us_2, us_3, us_4, us_5, us_6, us_7, us_8, us_9, us_10, us_11, rw_zero, rw_succ, Option.toList_some, Option.toList_none, List.cons_append, List.nil_append, cat_int, cat_ref, cat_null, iI_add, iI_sub, iI_mul, iI_neg, List.length_cons, List.length_nil, ↓reduceIte, va_rf_some, exR, wiR, wkW, wkR, orR, rdR, iI_lt]
          by_cases c5 : y.1 < z.2.1
          · simp (disch := first | assumption | omega | exact isB_z | exact isB_o | exact iI_in' (by assumption) (by omega) (by omega) | exact cat_int _ | exact cat_ref _ | exact cat_null | decide) only [c5, if_true] at ih' ⊢
            simp (disch := first | assumption | omega | exact isB_z | exact isB_o | exact iI_in' (by assumption) (by omega) (by omega) | exact cat_int _ | exact cat_ref _ | exact cat_null | decide) only [↓x_55_116, ↓x_55_118, ↓x_55_120, ↓x_55_147, ↓x_55_150, up1_same, up1_ne, up1_up1, us_0, us_1, us_2, us_3, us_4, us_5, us_6, us_7, us_8, us_9, us_10, us_11, rw_zero, rw_succ, Option.toList_some, Option.toList_none, List.cons_append, List.nil_append, cat_int, cat_ref, cat_null, iI_add, iI_sub, iI_mul, iI_neg, List.length_cons, List.length_nil, ↓reduceIte, va_rf_some, exR, wiR, wkW, wkR, orR, rdR, ci]
            exact ih' _
          · simp (disch := first | assumption | omega | exact isB_z | exact isB_o | exact iI_in' (by assumption) (by omega) (by omega) | exact cat_int _ | exact cat_ref _ | exact cat_null | decide) only [c5, if_false] at ih' ⊢
            simp (disch := first | assumption | omega | exact isB_z | exact isB_o | exact iI_in' (by assumption) (by omega) (by omega) | exact cat_int _ | exact cat_ref _ | exact cat_null | decide) only [↓x_55_123, ↓x_55_125, ↓x_55_126, ↓x_55_147, ↓x_55_150, up1_same, up1_ne, up1_up1, us_0, us_1, us_2, us_3, us_4, us_5, us_6, us_7, us_8, us_9, us_10, us_11, rw_zero, rw_succ, Option.toList_some, Option.toList_none, List.cons_append, List.nil_append, cat_int, cat_ref, cat_null, iI_add, iI_sub, iI_mul, iI_neg, List.length_cons, List.length_nil, ↓reduceIte, va_rf_some, exR, wiR, wkW, wkR, orR, rdR, iI_lt, c3, if_false, ci]
            exact ih' _
      · have c3 : y.1 < x := by omega
        simp (disch := first | assumption | omega | exact isB_z | exact isB_o | exact iI_in' (by assumption) (by omega) (by omega) | exact cat_int _ | exact cat_ref _ | exact cat_null | decide) only [c2, c3, if_true, true_and, false_and, if_false] at ih' ⊢
        simp (disch := first | assumption | omega | exact isB_z | exact isB_o | exact iI_in' (by assumption) (by omega) (by omega) | exact cat_int _ | exact cat_ref _ | exact cat_null | decide) only [↓x_55_123, ↓x_55_125, ↓x_55_126, ↓x_55_129, ↓x_55_131, ↓x_55_133, up1_same, up1_ne, up1_up1, us_0, us_1, us_2, us_3, us_4, us_5, us_6, us_7, us_8, us_9, us_10, us_11, rw_zero, rw_succ, Option.toList_some, Option.toList_none, List.cons_append, List.nil_append, cat_int, cat_ref, cat_null, iI_add, iI_sub, iI_mul, iI_neg, List.length_cons, List.length_nil, ↓reduceIte, va_rf_some, exR, wiR, wkW, wkR, orR, rdR, iI_lt, iI_eq, c3, if_true]
        by_cases c4 : z.2.2 = -2000000
        · simp (disch := first | assumption | omega | exact isB_z | exact isB_o | exact iI_in' (by assumption) (by omega) (by omega) | exact cat_int _ | exact cat_ref _ | exact cat_null | decide) only [c4, true_or, if_true] at ih' ⊢
          simp (disch := first | assumption | omega | exact isB_z | exact isB_o | exact iI_in' (by assumption) (by omega) (by omega) | exact cat_int _ | exact cat_ref _ | exact cat_null | decide) only [↓x_55_143, ↓x_55_145, ↓x_55_147, ↓x_55_150, up1_same, up1_ne, up1_up1, us_0, us_1, us_2, us_3, us_4, us_5, us_6, us_7, us_8, us_9, us_10, us_11, rw_zero, rw_succ, Option.toList_some, Option.toList_none, List.cons_append, List.nil_append, cat_int, cat_ref, cat_null, iI_add, iI_sub, iI_mul, iI_neg, List.length_cons, List.length_nil, ↓reduceIte, va_rf_some, exR, wiR, wkW, wkR, orR, rdR, ci]
          exact ih' _
        · simp (disch := first | assumption | omega | exact isB_z | exact isB_o | exact iI_in' (by assumption) (by omega) (by omega) | exact cat_int _ | exact cat_ref _ | exact cat_null | decide) only [c4, false_or, if_false] at ih' ⊢
          simp (disch := first | assumption | omega | exact isB_z | exact isB_o | exact iI_in' (by assumption) (by omega) (by omega) | exact cat_int _ | exact cat_ref _ | exact cat_null | decide) only [↓x_55_136, ↓x_55_138, ↓x_55_140, up1_same, up1_ne, up1_up1, us_0, us_1, us_2, us_3, us_4, us_5, us_6, us_7, us_8, us_9, us_10, us_11, rw_zero, rw_succ, Option.toList_some, Option.toList_none, List.cons_append, List.nil_append, cat_int, cat_ref, cat_null, iI_add, iI_sub, iI_mul, iI_neg, List.length_cons, List.length_nil, ↓reduceIte, va_rf_some, exR, wiR, wkW, wkR, orR, rdR, iI_lt, iI_le]
          by_cases c5 : z.2.2 < y.1
          · have c6 : ¬ y.1 ≤ z.2.2 := by omega
            simp (disch := first | assumption | omega | exact isB_z | exact isB_o | exact iI_in' (by assumption) (by omega) (by omega) | exact cat_int _ | exact cat_ref _ | exact cat_null | decide) only [c5, c6, if_true, if_false] at ih' ⊢
            simp (disch := first | assumption | omega | exact isB_z | exact isB_o | exact iI_in' (by assumption) (by omega) (by omega) | exact cat_int _ | exact cat_ref _ | exact cat_null | decide) only [↓x_55_143, ↓x_55_145, ↓x_55_147, ↓x_55_150, up1_same, up1_ne, up1_up1, us_0, us_1, us_2, us_3, us_4, us_5, us_6, us_7, us_8, us_9, us_10, us_11, rw_zero, rw_succ, Option.toList_some, Option.toList_none, List.cons_append, List.nil_append, cat_int, cat_ref, cat_null, iI_add, iI_sub, iI_mul, iI_neg, List.length_cons, List.length_nil, ↓reduceIte, va_rf_some, exR, wiR, wkW, wkR, orR, rdR, ci]
            exact ih' _
          · have c6 : y.1 ≤ z.2.2 := by omega
            simp (disch := first | assumption | omega | exact isB_z | exact isB_o | exact iI_in' (by assumption) (by omega) (by omega) | exact cat_int _ | exact cat_ref _ | exact cat_null | decide) only [c5, c6, if_true, if_false] at ih' ⊢
            simp (disch := first | assumption | omega | exact isB_z | exact isB_o | exact iI_in' (by assumption) (by omega) (by omega) | exact cat_int _ | exact cat_ref _ | exact cat_null | decide) only [↓x_55_147, ↓x_55_150, up1_same, up1_ne, up1_up1, us_0, us_1, us_2, us_3, us_4, us_5, us_6, us_7, us_8, us_9, us_10, us_11, rw_zero, rw_succ, Option.toList_some, Option.toList_none, List.cons_append, List.nil_append, cat_int, cat_ref, cat_null, iI_add, iI_sub, iI_mul, iI_neg, List.length_cons, List.length_nil, ↓reduceIte, va_rf_some, exR, wiR, wkW, wkR, orR, rdR, ci]
            exact ih' _
theorem k_level {x w : Int} (hK : exK t) (h : RX V A P S e) (h1 : -2147483648 ≤ x ∧ x < 2147483648) (h2 : -2147483648 ≤ w ∧ w < 2147483648) (hQ : ∀ (V' : Nat → Nat → Value), fq V V' A A → Q (some (.int (iI (aLevel S.X x w)))) (t, V', A, P)) : Call (d + 4) 55 [.ref 3, .int (iI x), .int (iI w)] (t, V, A, P) Q := by
  obtain ⟨it, hx⟩ := h.ob
  have k0 := hK.1
  have k29 := hK.2.2.2.2.2.2.2.2.2.1
  obtain ⟨s, W, h29⟩ := h.sc.2.2.2
  simp (disch := first | assumption | omega | exact isB_z | exact isB_o | exact iI_in' (by assumption) (by omega) (by omega) | exact cat_int _ | exact cat_ref _ | exact cat_null | decide) only [c_55, ↓x_55_0, ↓x_55_1, ↓x_55_4, ↓x_55_7, ↓x_55_8, ↓x_55_11, ↓x_55_14, ↓x_55_15, ↓x_55_18, ↓x_55_19, ↓x_55_20, up1_same, up1_ne, up1_up1, us_0, us_1, us_2, us_3, us_4, us_5, us_6, us_7, us_8, us_9, us_10, us_11, rw_zero, rw_succ, Option.toList_some, Option.toList_none, List.cons_append, List.nil_append, cat_int, cat_ref, cat_null, iI_add, iI_sub, iI_mul, iI_neg, List.length_cons, List.length_nil, ↓reduceIte, va_rf_some, exR, wiR, wkW, wkR, orR, rdR, iI_lt, iI_n0]
  by_cases a : -300 ≤ x ∧ x ≤ 300 ∧ 0 ≤ w ∧ w ≤ 2
  · have a1 : ¬ x < -300 := by omega
    have a2 : ¬ 300 < x := by omega
    have a3 : ¬ w < 0 := by omega
    have a4 : ¬ 2 < w := by omega
    simp (disch := first | assumption | omega | exact isB_z | exact isB_o | exact iI_in' (by assumption) (by omega) (by omega) | exact cat_int _ | exact cat_ref _ | exact cat_null | decide) only [a1, a2, a3, a4, if_false, ↓x_55_26, ↓x_55_27, ↓x_55_28, ↓x_55_30, ↓x_55_32, ↓x_55_34, ↓x_55_36, ↓x_55_37, ↓x_55_40, ↓x_55_41, ↓x_55_44, ↓x_55_45, up1_same, up1_ne, up1_up1, us_0, us_1, us_2, us_3, us_4, us_5, us_6, us_7, us_8, us_9, us_10, us_11, rw_zero, rw_succ, Option.toList_some, Option.toList_none, List.cons_append, List.nil_append, cat_int, cat_ref, cat_null, iI_add, iI_sub, iI_mul, iI_neg, List.length_cons, List.length_nil, ↓reduceIte, va_rf_some, exR, wiR, wkW, wkR, orR, rdR, hx, k_start k29 h29]
    have := level_loop (d := d) (Q := Q) hK h (by omega) (by omega) (x := x) (w := w) (S.X.1.length * 6) 0 Value.null (by omega)
    simp only [lvF, stF] at this
    refine cast this.symm (hQ _ (fq_29 h.sc))
  · have hsp : aLevel S.X x w = -1000000 := by unfold aLevel; rw [if_neg a]
    rw [hsp] at hQ
    simp (disch := first | assumption | omega | exact isB_z | exact isB_o | exact iI_in' (by assumption) (by omega) (by omega) | exact cat_int _ | exact cat_ref _ | exact cat_null | decide) only [↓x_55_23, ↓x_55_25, up1_same, up1_ne, up1_up1, us_0, us_1, us_2, us_3, us_4, us_5, us_6, us_7, us_8, us_9, us_10, us_11, rw_zero, rw_succ, Option.toList_some, Option.toList_none, List.cons_append, List.nil_append, cat_int, cat_ref, cat_null, iI_add, iI_sub, iI_mul, iI_neg, List.length_cons, List.length_nil, ↓reduceIte, va_rf_some, exR, wiR, wkW, wkR, orR, rdR]
    by_cases a1 : x < -300
    · simp only [a1, if_true]; exact hQ V (fq_rf h.sc)
    · by_cases a2 : 300 < x
      · simp only [a1, a2, if_true, if_false]; exact hQ V (fq_rf h.sc)
      · by_cases a3 : w < 0
        · simp only [a1, a2, a3, if_true, if_false]; exact hQ V (fq_rf h.sc)
        · have a4 : 2 < w := by omega
          simp only [a1, a2, a3, a4, if_true, if_false]; exact hQ V (fq_rf h.sc)
def aEven (X : aW) (b : Nat → Int32) (n i : Int) : Int32 := if n < 1 ∨ 6 < n ∨ i < -1 then iI (-1) else if (X.1.length : Int) < n then iI (-2) else if n ≤ i then iI (-9) else if i = -1 then iI (srcF X n.toNat b).2 else (srcF X n.toNat b).1 i.toNat
set_option maxHeartbeats 400000 in
theorem k_evenest {n i : Int} (hK : exK t) (hT : tabs t A) (h : RX V A P S e) (h1 : -2147483648 ≤ n ∧ n < 2147483648) (h2 : -2147483648 ≤ i ∧ i < 2147483648) (hQ : ∀ (V' : Nat → Nat → Value) (A' : Nat → Nat → Int32), fq V V' A A' → Q (some (.int (aEven S.X (A 21) n i))) (t, V', A', P)) : Call (d + 16) 56 [.ref 3, .int (iI n), .int (iI i)] (t, V, A, P) Q := by
  obtain ⟨it, hx⟩ := h.ob
  have k0 := hK.1
  have k4 := hK.2.1.1
  have kO := hK.2.2.2.2.2.2.2.2.1
  have k17 := kO.1
  have hX := h.wo.1
  have hw := h.wi.1
  simp (disch := first | assumption | omega | exact isB_z | exact isB_o | exact iI_in' (by assumption) (by omega) (by omega) | exact cat_int _ | exact cat_ref _ | exact cat_null | decide) only [c_56, ↓x_56_0, ↓x_56_1, ↓x_56_2, ↓x_56_5, ↓x_56_6, ↓x_56_8, ↓x_56_11, ↓x_56_12, ↓x_56_13, up1_same, up1_ne, up1_up1, us_0, us_1, us_2, us_3, us_4, us_5, us_6, us_7, us_8, us_9, us_10, us_11, rw_zero, rw_succ, Option.toList_some, Option.toList_none, List.cons_append, List.nil_append, cat_int, cat_ref, cat_null, iI_add, iI_sub, iI_mul, iI_neg, List.length_cons, List.length_nil, ↓reduceIte, va_rf_some, exR, wiR, wkW, wkR, orR, rdR, iI_lt, iI_le]
  by_cases a : n < 1 ∨ 6 < n ∨ i < -1
  · have hsp : aEven S.X (A 21) n i = iI (-1) := by unfold aEven; rw [if_pos a]
    rw [hsp] at hQ
    simp (disch := first | assumption | omega | exact isB_z | exact isB_o | exact iI_in' (by assumption) (by omega) (by omega) | exact cat_int _ | exact cat_ref _ | exact cat_null | decide) only [↓x_56_16, ↓x_56_17, up1_same, up1_ne, up1_up1, us_0, us_1, us_2, us_3, us_4, us_5, us_6, us_7, us_8, us_9, us_10, us_11, rw_zero, rw_succ, Option.toList_some, Option.toList_none, List.cons_append, List.nil_append, cat_int, cat_ref, cat_null, iI_add, iI_sub, iI_mul, iI_neg, List.length_cons, List.length_nil, ↓reduceIte, va_rf_some, exR, wiR, wkW, wkR, orR, rdR]
    by_cases a1 : n < 1
    · simp only [a1, if_true]; exact hQ V A (fq_rf h.sc)
    · by_cases a2 : 6 < n
      · simp only [a1, a2, if_true, if_false]; exact hQ V A (fq_rf h.sc)
      · have a3 : i < -1 := by omega
        simp only [a1, a2, a3, if_true, if_false]; exact hQ V A (fq_rf h.sc)
  · have a1 : ¬ n < 1 := by omega
    have a2 : ¬ 6 < n := by omega
    have a3 : ¬ i < -1 := by omega
    simp (disch := first | assumption | omega | exact isB_z | exact isB_o | exact iI_in' (by assumption) (by omega) (by omega) | exact cat_int _ | exact cat_ref _ | exact cat_null | decide) only [a1, a2, a3, if_false, if_true, ↓x_56_18, ↓x_56_19, ↓x_56_22, ↓x_56_25, ↓x_56_26, up1_same, up1_ne, up1_up1, us_0, us_1, us_2, us_3, us_4, us_5, us_6, us_7, us_8, us_9, us_10, us_11, rw_zero, rw_succ, Option.toList_some, Option.toList_none, List.cons_append, List.nil_append, cat_int, cat_ref, cat_null, iI_add, iI_sub, iI_mul, iI_neg, List.length_cons, List.length_nil, ↓reduceIte, va_rf_some, exR, wiR, wkW, wkR, orR, rdR, hx, hw, iI_lt, iI_le]
    by_cases b : (S.X.1.length : Int) < n
    · have b' : ¬ n ≤ S.X.1.length := by omega
      have hsp : aEven S.X (A 21) n i = iI (-2) := by unfold aEven; rw [if_neg a, if_pos b]
      rw [hsp] at hQ
      simp (disch := first | assumption | omega | exact isB_z | exact isB_o | exact iI_in' (by assumption) (by omega) (by omega) | exact cat_int _ | exact cat_ref _ | exact cat_null | decide) only [b, b', if_false, if_true, ↓x_56_29, ↓x_56_31, up1_same, up1_ne, up1_up1, us_0, us_1, us_2, us_3, us_4, us_5, us_6, us_7, us_8, us_9, us_10, us_11, rw_zero, rw_succ, Option.toList_some, Option.toList_none, List.cons_append, List.nil_append, cat_int, cat_ref, cat_null, iI_add, iI_sub, iI_mul, iI_neg, List.length_cons, List.length_nil, ↓reduceIte, va_rf_some, exR, wiR, wkW, wkR, orR, rdR]
      exact hQ V A (fq_rf h.sc)
    · have b' : n ≤ S.X.1.length := by omega
      simp (disch := first | assumption | omega | exact isB_z | exact isB_o | exact iI_in' (by assumption) (by omega) (by omega) | exact cat_int _ | exact cat_ref _ | exact cat_null | decide) only [b, b', if_false, if_true, ↓x_56_32, ↓x_56_33, ↓x_56_34, up1_same, up1_ne, up1_up1, us_0, us_1, us_2, us_3, us_4, us_5, us_6, us_7, us_8, us_9, us_10, us_11, rw_zero, rw_succ, Option.toList_some, Option.toList_none, List.cons_append, List.nil_append, cat_int, cat_ref, cat_null, iI_add, iI_sub, iI_mul, iI_neg, List.length_cons, List.length_nil, ↓reduceIte, va_rf_some, exR, wiR, wkW, wkR, orR, rdR, iI_lt, iI_le]
      by_cases c : n ≤ i
      · have c' : ¬ i < n := by omega
        have hsp : aEven S.X (A 21) n i = iI (-9) := by unfold aEven; rw [if_neg a, if_neg b, if_pos c]
        rw [hsp] at hQ
        simp (disch := first | assumption | omega | exact isB_z | exact isB_o | exact iI_in' (by assumption) (by omega) (by omega) | exact cat_int _ | exact cat_ref _ | exact cat_null | decide) only [c, c', if_false, if_true, ↓x_56_37, ↓x_56_39, up1_same, up1_ne, up1_up1, us_0, us_1, us_2, us_3, us_4, us_5, us_6, us_7, us_8, us_9, us_10, us_11, rw_zero, rw_succ, Option.toList_some, Option.toList_none, List.cons_append, List.nil_append, cat_int, cat_ref, cat_null, iI_add, iI_sub, iI_mul, iI_neg, List.length_cons, List.length_nil, ↓reduceIte, va_rf_some, exR, wiR, wkW, wkR, orR, rdR]
        exact hQ V A (fq_rf h.sc)
      · have c' : i < n := by omega
        have hsp : aEven S.X (A 21) n i = if i = -1 then iI (srcF S.X n.toNat (A 21)).2 else (srcF S.X n.toNat (A 21)).1 i.toNat := by unfold aEven; rw [if_neg a, if_neg b, if_neg c]
        rw [hsp] at hQ
        simp (disch := first | assumption | omega | exact isB_z | exact isB_o | exact iI_in' (by assumption) (by omega) (by omega) | exact cat_int _ | exact cat_ref _ | exact cat_null | decide) only [c, c', if_false, if_true, ↓x_56_40, ↓x_56_41, ↓x_56_44, ↓x_56_45, ↓x_56_48, up1_same, up1_ne, up1_up1, us_0, us_1, us_2, us_3, us_4, us_5, us_6, us_7, us_8, us_9, us_10, us_11, rw_zero, rw_succ, Option.toList_some, Option.toList_none, List.cons_append, List.nil_append, cat_int, cat_ref, cat_null, iI_add, iI_sub, iI_mul, iI_neg, List.length_cons, List.length_nil, ↓reduceIte, va_rf_some, exR, wiR, wkW, wkR, orR, rdR, hx]
        simp (disch := first | assumption | omega | exact isB_z | exact isB_o | exact iI_in' (by assumption) (by omega) (by omega) | exact cat_int _ | exact cat_ref _ | exact cat_null | decide) only [↓x_56_49, up1_same, up1_ne, up1_up1, us_0, us_1, us_2, us_3, us_4, us_5, us_6, us_7, us_8, us_9, us_10, us_11, rw_zero, rw_succ, Option.toList_some, Option.toList_none, List.cons_append, List.nil_append, cat_int, cat_ref, cat_null, iI_add, iI_sub, iI_mul, iI_neg, List.length_cons, List.length_nil, ↓reduceIte, va_rf_some, exR, wiR, wkW, wkR, orR, rdR]
        obtain ⟨n0, l0, h17⟩ := h.sc.2.1
        obtain ⟨m, hm⟩ : ∃ m : Nat, n = m := ⟨n.toNat, by omega⟩
        subst hm
        rw [Int.toNat_natCast] at hQ
        have hd : d + 15 = (d + (7 - m)) + m + 8 := by omega
        rw [hd]
        refine k_search (d := d + (7 - m)) (n := m) hT kO h.op (by decide) h17 h.sc.2.2.1 hK.2.1 h.wi h.wo (by omega) (by omega) (by omega) (by omega) (fun V' A' q1 q2 q3 q4 q5 => ?_)
        have hx' : V' 3 = exR S.T.length it S.U.length := by rw [q4 3 (by omega)]; exact hx
        have hq : fq V V' A A' := ⟨fun a ha => q4 a (by omega), fun a ha => q5 a (by omega), by
          obtain ⟨f, u, m, fi, br, bl, lo, r1, r2, r3⟩ := h.sc.1
          exact ⟨f, u, m, fi, br, bl, lo, by rw [q4 _ (by omega)]; exact r1, by rw [q4 _ (by omega)]; exact r2, by rw [q4 _ (by omega)]; exact r3⟩, ⟨_, _, q1⟩, q3, by rw [q4 _ (by omega)]; exact h.sc.2.2.2⟩
        simp (disch := first | assumption | omega | exact isB_z | exact isB_o | exact iI_in' (by assumption) (by omega) (by omega) | exact cat_int _ | exact cat_ref _ | exact cat_null | decide) only [↓x_56_52, ↓x_56_53, ↓x_56_54, up1_same, up1_ne, up1_up1, us_0, us_1, us_2, us_3, us_4, us_5, us_6, us_7, us_8, us_9, us_10, us_11, rw_zero, rw_succ, Option.toList_some, Option.toList_none, List.cons_append, List.nil_append, cat_int, cat_ref, cat_null, iI_add, iI_sub, iI_mul, iI_neg, List.length_cons, List.length_nil, ↓reduceIte, va_rf_some, exR, wiR, wkW, wkR, orR, rdR, iI_eq]
        by_cases g : i = -1
        · rw [if_pos g] at hQ ⊢
          simp (disch := first | assumption | omega | exact isB_z | exact isB_o | exact iI_in' (by assumption) (by omega) (by omega) | exact cat_int _ | exact cat_ref _ | exact cat_null | decide) only [↓x_56_57, ↓x_56_58, ↓x_56_61, ↓x_56_64, ↓x_56_75, up1_same, up1_ne, up1_up1, us_0, us_1, us_2, us_3, us_4, us_5, us_6, us_7, us_8, us_9, us_10, us_11, rw_zero, rw_succ, Option.toList_some, Option.toList_none, List.cons_append, List.nil_append, cat_int, cat_ref, cat_null, iI_add, iI_sub, iI_mul, iI_neg, List.length_cons, List.length_nil, ↓reduceIte, va_rf_some, exR, wiR, wkW, wkR, orR, rdR, hx', q1]
          exact hQ V' A' hq
        · rw [if_neg g] at hQ ⊢
          have q6 := q2 i.toNat (by omega)
          simp (disch := first | assumption | omega | exact isB_z | exact isB_o | exact iI_in' (by assumption) (by omega) (by omega) | exact cat_int _ | exact cat_ref _ | exact cat_null | decide) only [↓x_56_67, ↓x_56_68, ↓x_56_71, ↓x_56_72, up1_same, up1_ne, up1_up1, us_0, us_1, us_2, us_3, us_4, us_5, us_6, us_7, us_8, us_9, us_10, us_11, rw_zero, rw_succ, Option.toList_some, Option.toList_none, List.cons_append, List.nil_append, cat_int, cat_ref, cat_null, iI_add, iI_sub, iI_mul, iI_neg, List.length_cons, List.length_nil, ↓reduceIte, va_rf_some, exR, wiR, wkW, wkR, orR, rdR, hx']
          rw [k_bestAt kO q1 (by omega) (by omega) c', q6]
          simp (disch := first | assumption | omega | exact isB_z | exact isB_o | exact iI_in' (by assumption) (by omega) (by omega) | exact cat_int _ | exact cat_ref _ | exact cat_null | decide) only [↓x_56_75, up1_same, up1_ne, up1_up1, us_0, us_1, us_2, us_3, us_4, us_5, us_6, us_7, us_8, us_9, us_10, us_11, rw_zero, rw_succ, Option.toList_some, Option.toList_none, List.cons_append, List.nil_append, cat_int, cat_ref, cat_null, iI_add, iI_sub, iI_mul, iI_neg, List.length_cons, List.length_nil, ↓reduceIte, va_rf_some, exR, wiR, wkW, wkR, orR, rdR]
          exact hQ V' A' hq
end
