/-! READING -/
abbrev rdR (r : Nat) (f u m fi br bl lo : Int) : Nat → Value := rw' [.ref (r + 1), .ref (r + 2), .ref (r + 3), .int (iI f), .int (iI u), .int (iI m), .int (iI fi), .int (iI br), .int (iI bl), .int (iI lo)]
def rdK (t : mL) (r : Nat) : Prop := kd t r = 1 ∧ kd t (r + 1) = 6 ∧ ln t (r + 1) = 32 ∧ kd t (r + 2) = 2 ∧ kd t (r + 3) = 2
/-- the piece of six bits from there on -/
def pcN (l : List Int) (at' : Int) : Int := 2 * (2 * (2 * (2 * (2 * (2 * 0 + btA l (at' + 0)) + btA l (at' + 1)) + btA l (at' + 2)) + btA l (at' + 3)) + btA l (at' + 4)) + btA l (at' + 5)
/-- how many pieces -/
def pN (n f : Int) : Int := if n = 0 then 0 else if f = 0 then n else n - 1
theorem btA_b (l : List Int) (b : Int) : 0 ≤ btA l b ∧ btA l b ≤ 1 := by unfold btA; omega
theorem pcN_b (l : List Int) (b : Int) : 0 ≤ pcN l b ∧ pcN l b < 64 := by
  have h0 := btA_b l (b + 0)
  have h1 := btA_b l (b + 1)
  have h2 := btA_b l (b + 2)
  have h3 := btA_b l (b + 3)
  have h4 := btA_b l (b + 4)
  have h5 := btA_b l (b + 5)
  unfold pcN
  omega
/-- a piece gone over: from (sum, walk) to the next, and what it breaks -/
def tkG (S : Int × wS) (n : Int) : (Int × wS) × Nat := ((sB n S.1, (tkL S.2 (fbr n S.1) (bt6 n)).1), (tkL S.2 (fbr n S.1) (bt6 n)).2)
def wkG (g : Nat → Int) (u : Int) : Nat → Int × wS
  | 0 => (u, (u, -9, 0, 0))
  | p + 1 => (tkG (wkG g u p) (g p)).1
def brG (g : Nat → Int) (u : Int) (p : Nat) : Nat := (tkG (wkG g u p) (g p)).2
theorem wkG_s (g : Nat → Int) {u : Int} (hu : u = -1 ∨ u = 1) : ∀ p, (wkG g u p).1 = -1 ∨ (wkG g u p).1 = 1 := by
  intro p
  induction p with
  | zero => exact hu
  | succ p ih => exact sB_b _ ih
theorem wkG_OK (g : Nat → Int) {u : Int} (hu : u = -1 ∨ u = 1) : ∀ p : Nat, wOK (6 * p) (wkG g u p).2 := by
  intro p
  induction p with
  | zero =>
    simp only [wkG, wOK]
    omega
  | succ p ih =>
    have := tk_OK (n := g p) (f := fbr (g p) (wkG g u p).1) ih
    rw [show (6 : Int) * ((p + 1 : Nat) : Int) = 6 * p + 6 by omega]
    exact this
section
variable {d : Nat} {t : mL} {V : Nat → Nat → Value} {A : Nat → Nat → Int32} {P : Nat → Nat → Option Nat} {μ : mM} {Q : Option Value → mM → Prop}
theorem load_in {r w : Nat} {X : aW} {f u at' : Int} (hK : wiK t w) (hw : wiH V A w X) (hX : wf X) (h0 : 0 ≤ at') (h1 : at' + 6 ≤ X.1.length * 6) : Ev (d + 3) 11 45 [.ref r, .ref w, .int (iI f), .int (iI u), .int (iI at'), .int (iI 0), .int (iI 0)] [] (t, V, A, P) Q = Ev (d + 3) 11 74 [.ref r, .ref w, .int (iI f), .int (iI u), .int (iI at'), .int (iI (pcN X.2 at')), .int (iI 6)] [] (t, V, A, P) Q := by
  have x1 := hX.1
  have k1 := hK.1
  simp (disch := first | assumption | omega | exact isB_z | exact isB_o | exact iI_in' (by assumption) (by omega) (by omega) | exact cat_int _ | exact cat_ref _ | exact cat_null | decide) only [↓x_11_45, ↓x_11_47, ↓x_11_49, ↓x_11_52, ↓x_11_53, ↓x_11_55, ↓x_11_56, ↓x_11_57, ↓x_11_59, ↓x_11_61, ↓x_11_62, ↓x_11_65, ↓x_11_66, ↓x_11_68, ↓x_11_71, up1_same, up1_ne, up1_up1, us_0, us_1, us_2, us_3, us_4, us_5, us_6, us_7, us_8, us_9, us_10, us_11, rw_zero, rw_succ, Option.toList_some, Option.toList_none, List.cons_append, List.nil_append, cat_int, cat_ref, cat_null, iI_add, iI_sub, iI_mul, iI_neg, List.length_cons, List.length_nil, ↓reduceIte, va_rf_some, rdR, wkW, wkR, wiR, iI_lt, Int.reduceLT, Int.reduceAdd, if_true, if_false, k_bitAt hK hw hX]
  rfl
theorem wiH.frame {w : Nat} {X : aW} {V' : Nat → Nat → Value} {A' : Nat → Nat → Int32} (h : wiH V A w X) (hV : V' w = V w) (hA : ∀ a, w + 1 ≤ a → a ≤ w + 3 → A' a = A a) : wiH V' A' w X := by
  obtain ⟨h1, h2, h3, h4⟩ := h
  refine ⟨by rw [hV]; exact h1, fun i hi => ?_, fun i hi => ?_, fun i hi => ?_⟩
  · rw [hA _ (by omega) (by omega)]; exact h2 i hi
  · rw [hA _ (by omega) (by omega)]; exact h3 i hi
  · rw [hA _ (by omega) (by omega)]; exact h4 i hi
theorem load_loop {r w : Nat} {X : aW} {f u fi br bl lo : Int} {V0 : Nat → Nat → Value} {A0 : Nat → Nat → Int32} (hR : rdK t r) (hK : wiK t w) (hw : wiH V0 A0 w X) (hX : wf X) (hf : 0 ≤ f ∧ f ≤ 5) (hne : r + 3 < w ∨ w + 3 < r)
    (hQ : ∀ (V' : Nat → Nat → Value) (A' : Nat → Nat → Int32), V' r = rdR r f u (pN X.1.length f) fi br bl lo → (∀ a, a ≠ r → V' a = V0 a) → (∀ a, a ≠ r + 1 → A' a = A0 a) → (∀ p : Nat, p < pN X.1.length f → A' (r + 1) p = iI (pcN X.2 (f + 6 * p))) → Q none (t, V', A', P)) :
    ∀ (k : Nat) (m at' : Int) (V : Nat → Nat → Value) (A : Nat → Nat → Int32) (a5 a6 : Value), 0 ≤ m → m + k = pN X.1.length f → at' = f + 6 * m → V r = rdR r f u m fi br bl lo → (∀ a, a ≠ r → V a = V0 a) → (∀ a, a ≠ r + 1 → A a = A0 a) → (∀ p : Nat, p < m → A (r + 1) p = iI (pcN X.2 (f + 6 * p))) → Ev (d + 3) 11 18 [.ref r, .ref w, .int (iI f), .int (iI u), .int (iI at'), a5, a6] [] (t, V, A, P) Q := by
  obtain ⟨r1, r2, r3, r4, r5⟩ := hR
  have k1 := hK.1
  have x1 := hX.1
  have hp : pN X.1.length f = if (X.1.length : Int) = 0 then 0 else if f = 0 then (X.1.length : Int) else X.1.length - 1 := rfl
  intro k
  induction k with
  | zero =>
    intro m at' V A a5 a6 h0 h1 ha hr hV hA hc
    have w1 : V w = wiX w X := (hV w (by omega)).trans hw.1
    rw [x_11_18]
    have e1 : X.1.length * 6 < at' + 6 := by
      rw [hp] at h1
      split at h1
      · omega
      · split at h1 <;> omega
    simp (disch := first | assumption | omega | exact isB_z | exact isB_o | exact iI_in' (by assumption) (by omega) (by omega) | exact cat_int _ | exact cat_ref _ | exact cat_null | decide) only [↓x_11_0, ↓x_11_1, ↓x_11_2, ↓x_11_5, ↓x_11_6, ↓x_11_7, ↓x_11_10, ↓x_11_11, ↓x_11_12, ↓x_11_15, ↓x_11_16, ↓x_11_20, ↓x_11_22, ↓x_11_23, ↓x_11_24, ↓x_11_27, ↓x_11_30, ↓x_11_31, ↓x_11_34, ↓x_11_36, ↓x_11_39, ↓x_11_40, ↓x_11_42, ↓x_11_43, ↓x_11_45, ↓x_11_47, ↓x_11_49, ↓x_11_52, ↓x_11_53, ↓x_11_55, ↓x_11_56, ↓x_11_57, ↓x_11_59, ↓x_11_61, ↓x_11_62, ↓x_11_65, ↓x_11_66, ↓x_11_68, ↓x_11_71, ↓x_11_74, ↓x_11_75, ↓x_11_78, ↓x_11_79, ↓x_11_82, ↓x_11_84, ↓x_11_85, ↓x_11_86, ↓x_11_87, ↓x_11_90, ↓x_11_91, ↓x_11_92, ↓x_11_95, ↓x_11_98, ↓x_11_101, up1_same, up1_ne, up1_up1, us_0, us_1, us_2, us_3, us_4, us_5, us_6, us_7, us_8, us_9, us_10, us_11, rw_zero, rw_succ, Option.toList_some, Option.toList_none, List.cons_append, List.nil_append, cat_int, cat_ref, cat_null, iI_add, iI_sub, iI_mul, iI_neg, List.length_cons, List.length_nil, ↓reduceIte, va_rf_some, rdR, wkW, wkR, wiR, k_bits k1 w1, iI_lt, e1, if_true]
    have : m = pN X.1.length f := by omega
    subst this
    exact hQ V A hr hV hA hc
  | succ k ih =>
    intro m at' V A a5 a6 h0 h1 ha hr hV hA hc
    have w1 : V w = wiX w X := (hV w (by omega)).trans hw.1
    have hw' : wiH V A w X := hw.frame (hV w (by omega)) (fun a q1 q2 => hA a (by omega))
    rw [x_11_18]
    have e1 : at' + 6 ≤ X.1.length * 6 ∧ m < 32 := by
      rw [hp] at h1
      split at h1
      · omega
      · split at h1 <;> omega
    have e2 : ¬ (X.1.length : Int) * 6 < at' + 6 := by omega
    have e3 := e1.2
    simp (disch := first | assumption | omega | exact isB_z | exact isB_o | exact iI_in' (by assumption) (by omega) (by omega) | exact cat_int _ | exact cat_ref _ | exact cat_null | decide) only [↓x_11_0, ↓x_11_1, ↓x_11_2, ↓x_11_5, ↓x_11_6, ↓x_11_7, ↓x_11_10, ↓x_11_11, ↓x_11_12, ↓x_11_15, ↓x_11_16, ↓x_11_20, ↓x_11_22, ↓x_11_23, ↓x_11_24, ↓x_11_27, ↓x_11_30, ↓x_11_31, ↓x_11_34, ↓x_11_36, ↓x_11_39, ↓x_11_40, ↓x_11_42, ↓x_11_43, ↓x_11_47, ↓x_11_49, ↓x_11_52, ↓x_11_53, ↓x_11_55, ↓x_11_56, ↓x_11_57, ↓x_11_59, ↓x_11_61, ↓x_11_62, ↓x_11_65, ↓x_11_66, ↓x_11_68, ↓x_11_71, ↓x_11_75, ↓x_11_78, ↓x_11_79, ↓x_11_82, ↓x_11_84, ↓x_11_85, ↓x_11_86, ↓x_11_87, ↓x_11_90, ↓x_11_91, ↓x_11_92, ↓x_11_95, ↓x_11_98, ↓x_11_101, up1_same, up1_ne, up1_up1, us_0, us_1, us_2, us_3, us_4, us_5, us_6, us_7, us_8, us_9, us_10, us_11, rw_zero, rw_succ, Option.toList_some, Option.toList_none, List.cons_append, List.nil_append, cat_int, cat_ref, cat_null, iI_add, iI_sub, iI_mul, iI_neg, List.length_cons, List.length_nil, ↓reduceIte, va_rf_some, rdR, wkW, wkR, wiR, k_bits k1 w1, hr, iI_lt, e2, e3, if_true, if_false]
    rw [load_in hK hw' hX (by omega) e1.1]
    simp (disch := first | assumption | omega | exact isB_z | exact isB_o | exact iI_in' (by assumption) (by omega) (by omega) | exact cat_int _ | exact cat_ref _ | exact cat_null | decide) only [↓x_11_0, ↓x_11_1, ↓x_11_2, ↓x_11_5, ↓x_11_6, ↓x_11_7, ↓x_11_10, ↓x_11_11, ↓x_11_12, ↓x_11_15, ↓x_11_16, ↓x_11_20, ↓x_11_22, ↓x_11_23, ↓x_11_24, ↓x_11_27, ↓x_11_30, ↓x_11_31, ↓x_11_34, ↓x_11_36, ↓x_11_39, ↓x_11_40, ↓x_11_42, ↓x_11_43, ↓x_11_47, ↓x_11_49, ↓x_11_52, ↓x_11_53, ↓x_11_55, ↓x_11_56, ↓x_11_57, ↓x_11_59, ↓x_11_61, ↓x_11_62, ↓x_11_65, ↓x_11_66, ↓x_11_68, ↓x_11_71, ↓x_11_74, ↓x_11_75, ↓x_11_78, ↓x_11_79, ↓x_11_82, ↓x_11_84, ↓x_11_85, ↓x_11_86, ↓x_11_87, ↓x_11_90, ↓x_11_91, ↓x_11_92, ↓x_11_95, ↓x_11_98, ↓x_11_101, up1_same, up1_ne, up1_up1, us_0, us_1, us_2, us_3, us_4, us_5, us_6, us_7, us_8, us_9, us_10, us_11, rw_zero, rw_succ, Option.toList_some, Option.toList_none, List.cons_append, List.nil_append, cat_int, cat_ref, cat_null, iI_add, iI_sub, iI_mul, iI_neg, List.length_cons, List.length_nil, ↓reduceIte, va_rf_some, rdR, wkW, wkR, wiR, hr, iI_cl]
    refine ih (m + 1) (at' + 6) _ _ _ _ (by omega) (by omega) (by omega) (up1_same _ _ _) (fun a q => by rw [up1_ne q]; exact hV a q) (fun a q => by rw [up1_ne q]; exact hA a q) (fun p hp => ?_)
    rw [up1_same]
    by_cases h : p = m.toNat
    · subst h
      rw [upd_same, ha, Int.toNat_of_nonneg h0]
    · rw [upd_ne h]
      exact hc p (by omega)
theorem k_load {r w : Nat} {X : aW} {f u : Int} (hR : rdK t r) (hK : wiK t w) (hw : wiH V A w X) (hX : wf X) (hf : 0 ≤ f ∧ f ≤ 5) (hne : r + 3 < w ∨ w + 3 < r) (hr : ∃ f0 u0 m0 fi br bl lo, V r = rdR r f0 u0 m0 fi br bl lo)
    (hQ : ∀ (V' : Nat → Nat → Value) (A' : Nat → Nat → Int32), (∃ fi br bl lo, V' r = rdR r f u (pN X.1.length f) fi br bl lo) → (∀ a, a ≠ r → V' a = V a) → (∀ a, a ≠ r + 1 → A' a = A a) → (∀ p : Nat, p < pN X.1.length f → A' (r + 1) p = iI (pcN X.2 (f + 6 * p))) → Q none (t, V', A', P)) : Call (d + 4) 11 [.ref r, .ref w, .int (iI f), .int (iI u)] (t, V, A, P) Q := by
  obtain ⟨f0, u0, m0, fi, br, bl, lo, hr⟩ := hr
  have r1 := hR.1
  have hp : 0 ≤ pN X.1.length f := by
    unfold pN
    split
    · omega
    · split <;> omega
  simp (disch := first | assumption | omega | exact isB_z | exact isB_o | exact iI_in' (by assumption) (by omega) (by omega) | exact cat_int _ | exact cat_ref _ | exact cat_null | decide) only [c_11, ↓x_11_0, ↓x_11_1, ↓x_11_2, ↓x_11_5, ↓x_11_6, ↓x_11_7, ↓x_11_10, ↓x_11_11, ↓x_11_12, ↓x_11_15, ↓x_11_16, up1_same, up1_ne, up1_up1, us_0, us_1, us_2, us_3, us_4, us_5, us_6, us_7, us_8, us_9, us_10, us_11, rw_zero, rw_succ, Option.toList_some, Option.toList_none, List.cons_append, List.nil_append, cat_int, cat_ref, cat_null, iI_add, iI_sub, iI_mul, iI_neg, List.length_cons, List.length_nil, ↓reduceIte, va_rf_some, rdR, wkW, wkR, wiR, hr]
  exact load_loop hR hK hw hX hf hne (fun V' A' q1 q2 q3 q4 => hQ V' A' ⟨fi, br, bl, lo, q1⟩ q2 q3 q4) (pN X.1.length f).toNat 0 f _ A _ _ (by omega) (by omega) (by omega) (up1_same _ _ _) (fun a q => up1_ne q) (fun _ _ => rfl) (fun p hp => by omega)
/-- the pieces lie there -/
def rdH (A : Nat → Nat → Int32) (r : Nat) (m : Int) (g : Nat → Int) : Prop := 0 ≤ m ∧ m ≤ 32 ∧ ∀ p : Nat, p < m → A (r + 1) p = iI (g p) ∧ 0 ≤ g p ∧ g p < 64
theorem k_pieceAt {r : Nat} {f u m fi br bl lo p : Int} {g : Nat → Int} (hR : rdK t r) (hr : V r = rdR r f u m fi br bl lo) (hG : rdH A r m g) (h0 : 0 ≤ p) (h1 : p < m) : Call (d + 1) 12 [.ref r, .int (iI p)] (t, V, A, P) Q = Q (some (.int (iI (g p.toNat)))) (t, V, A, P) := by
  obtain ⟨r1, r2, r3, r4, r5⟩ := hR
  obtain ⟨g1, g2, g3⟩ := hG
  have e1 : ¬ p < 0 := by omega
  have e2 : p < 32 := by omega
  have e3 := (g3 p.toNat (by omega)).1
  simp (disch := first | assumption | omega | exact isB_z | exact isB_o | exact iI_in' (by assumption) (by omega) (by omega) | exact cat_int _ | exact cat_ref _ | exact cat_null | decide) only [c_12, ↓x_12_0, ↓x_12_1, ↓x_12_4, ↓x_12_5, ↓x_12_6, ↓x_12_9, ↓x_12_12, ↓x_12_13, ↓x_12_15, ↓x_12_18, ↓x_12_19, ↓x_12_22, ↓x_12_23, ↓x_12_24, ↓x_12_27, ↓x_12_28, up1_same, up1_ne, up1_up1, us_0, us_1, us_2, us_3, us_4, us_5, us_6, us_7, us_8, us_9, us_10, us_11, rw_zero, rw_succ, Option.toList_some, Option.toList_none, List.cons_append, List.nil_append, cat_int, cat_ref, cat_null, iI_add, iI_sub, iI_mul, iI_neg, List.length_cons, List.length_nil, ↓reduceIte, va_rf_some, rdR, wkW, wkR, wiR, hr, iI_lt, e1, e2, h1, if_true, if_false, iI_cl, e3]
theorem sumAhead_loop {r : Nat} {f u m fi br bl lo p : Int} {g : Nat → Int} (hR : rdK t r) (hr : V r = rdR r f u m fi br bl lo) (hG : rdH A r m g) (h1 : p ≤ m) : ∀ (k : Nat) (i : Int), 0 ≤ i → i + k = p → Ev (d + 2) 13 7 [.ref r, .int (iI p), .int (iI (wkG g u i.toNat).1), .int (iI i)] [] (t, V, A, P) Q = Q (some (.int (iI (wkG g u p.toNat).1))) (t, V, A, P) := by
  have r1 := hR.1
  obtain ⟨g1, g2, g3⟩ := hG
  intro k
  induction k with
  | zero =>
    intro i h0 hk
    have : i = p := by omega
    subst this
    rw [x_13_7]
    have e1 : ¬ i < i := by omega
    simp (disch := first | assumption | omega | exact isB_z | exact isB_o | exact iI_in' (by assumption) (by omega) (by omega) | exact cat_int _ | exact cat_ref _ | exact cat_null | decide) only [↓x_13_0, ↓x_13_1, ↓x_13_4, ↓x_13_5, ↓x_13_6, ↓x_13_8, ↓x_13_9, ↓x_13_12, ↓x_13_13, ↓x_13_14, ↓x_13_17, ↓x_13_20, ↓x_13_21, ↓x_13_22, ↓x_13_25, ↓x_13_26, ↓x_13_29, ↓x_13_30, ↓x_13_33, ↓x_13_36, ↓x_13_37, up1_same, up1_ne, up1_up1, us_0, us_1, us_2, us_3, us_4, us_5, us_6, us_7, us_8, us_9, us_10, us_11, rw_zero, rw_succ, Option.toList_some, Option.toList_none, List.cons_append, List.nil_append, cat_int, cat_ref, cat_null, iI_add, iI_sub, iI_mul, iI_neg, List.length_cons, List.length_nil, ↓reduceIte, va_rf_some, rdR, wkW, wkR, wiR, hr, iI_lt, e1, if_false]
  | succ k ih =>
    intro i h0 hk
    rw [x_13_7]
    have e1 : i < p := by omega
    have e2 : i < m := by omega
    have e3 := g3 i.toNat (by omega)
    simp (disch := first | assumption | omega | exact isB_z | exact isB_o | exact iI_in' (by assumption) (by omega) (by omega) | exact cat_int _ | exact cat_ref _ | exact cat_null | decide) only [↓x_13_0, ↓x_13_1, ↓x_13_4, ↓x_13_5, ↓x_13_6, ↓x_13_8, ↓x_13_9, ↓x_13_12, ↓x_13_13, ↓x_13_14, ↓x_13_17, ↓x_13_20, ↓x_13_21, ↓x_13_22, ↓x_13_25, ↓x_13_26, ↓x_13_29, ↓x_13_30, ↓x_13_33, ↓x_13_36, ↓x_13_37, up1_same, up1_ne, up1_up1, us_0, us_1, us_2, us_3, us_4, us_5, us_6, us_7, us_8, us_9, us_10, us_11, rw_zero, rw_succ, Option.toList_some, Option.toList_none, List.cons_append, List.nil_append, cat_int, cat_ref, cat_null, iI_add, iI_sub, iI_mul, iI_neg, List.length_cons, List.length_nil, ↓reduceIte, va_rf_some, rdR, wkW, wkR, wiR, hr, iI_lt, e1, e2, if_true, k_pieceAt hR hr ⟨g1, g2, g3⟩, k_sumBehind e3.2.1 e3.2.2]
    have := ih (i + 1) (by omega) (by omega)
    rw [show (i + 1).toNat = i.toNat + 1 by omega] at this
    exact this
theorem k_sumAhead {r : Nat} {f u m fi br bl lo p : Int} {g : Nat → Int} (hR : rdK t r) (hr : V r = rdR r f u m fi br bl lo) (hG : rdH A r m g) (h0 : 0 ≤ p) (h1 : p ≤ m) : Call (d + 3) 13 [.ref r, .int (iI p)] (t, V, A, P) Q = Q (some (.int (iI (wkG g u p.toNat).1))) (t, V, A, P) := by
  have r1 := hR.1
  simp (disch := first | assumption | omega | exact isB_z | exact isB_o | exact iI_in' (by assumption) (by omega) (by omega) | exact cat_int _ | exact cat_ref _ | exact cat_null | decide) only [c_13, ↓x_13_0, ↓x_13_1, ↓x_13_4, ↓x_13_5, ↓x_13_6, up1_same, up1_ne, up1_up1, us_0, us_1, us_2, us_3, us_4, us_5, us_6, us_7, us_8, us_9, us_10, us_11, rw_zero, rw_succ, Option.toList_some, Option.toList_none, List.cons_append, List.nil_append, cat_int, cat_ref, cat_null, iI_add, iI_sub, iI_mul, iI_neg, List.length_cons, List.length_nil, ↓reduceIte, va_rf_some, rdR, wkW, wkR, wiR, hr]
  exact sumAhead_loop hR hr hG h1 p.toNat 0 (by omega) (by omega)
theorem k_sumBehindR {r : Nat} {f u m fi br bl lo p : Int} {g : Nat → Int} (hR : rdK t r) (hr : V r = rdR r f u m fi br bl lo) (hG : rdH A r m g) (h0 : 0 ≤ p) (h1 : p < m) : Call (d + 4) 14 [.ref r, .int (iI p)] (t, V, A, P) Q = Q (some (.int (iI (wkG g u (p.toNat + 1)).1))) (t, V, A, P) := by
  have r1 := hR.1
  have e3 := hG.2.2 p.toNat (by omega)
  simp (disch := first | assumption | omega | exact isB_z | exact isB_o | exact iI_in' (by assumption) (by omega) (by omega) | exact cat_int _ | exact cat_ref _ | exact cat_null | decide) only [c_14, ↓x_14_0, ↓x_14_1, ↓x_14_2, ↓x_14_5, ↓x_14_6, ↓x_14_7, ↓x_14_10, ↓x_14_13, up1_same, up1_ne, up1_up1, us_0, us_1, us_2, us_3, us_4, us_5, us_6, us_7, us_8, us_9, us_10, us_11, rw_zero, rw_succ, Option.toList_some, Option.toList_none, List.cons_append, List.nil_append, cat_int, cat_ref, cat_null, iI_add, iI_sub, iI_mul, iI_neg, List.length_cons, List.length_nil, ↓reduceIte, va_rf_some, rdR, wkW, wkR, wiR, k_pieceAt hR hr hG, k_sumAhead hR hr hG, k_sumBehind e3.2.1 e3.2.2]
  rfl
theorem tkL_lt (W : wS) : ∀ (l : List Int) (f : Nat), f < 16 → (tkL W f l).2 < 16 := by
  intro l
  induction l generalizing W with
  | nil => intro f h; exact h
  | cons x l ih =>
    intro f h
    refine ih _ _ (Nat.or_lt_two_pow (n := 4) h ?_)
    unfold bfl
    exact Nat.or_lt_two_pow (n := 4) (by split <;> decide) (by split <;> decide)
theorem tkG_lt (S : Int × wS) (n : Int) : (tkG S n).2 < 16 := by
  refine tkL_lt _ _ _ ?_
  unfold fbr
  split
  · decide
  · split <;> decide
/-- a piece taken by a walk that stands at S -/
theorem k_takeG {w : Nat} {S : Int × wS} {n m : Int} (hT : tabs t A) (hk : kd t w = 2) (hw : V w = wkW S.1 S.2) (hW : wOK m S.2) (hm : m ≤ 99000) (hs : S.1 = -1 ∨ S.1 = 1) (h0 : 0 ≤ n) (h1 : n < 64) : Call (d + 6) 24 [.ref w, .int (iI n)] (t, V, A, P) Q = Q (some (.int (iI ((tkG S n).2 : Nat)))) (t, up1 V w (wkW (tkG S n).1.1 (tkG S n).1.2), A, P) := k_take hT hk hw hW hm hs h0 h1
theorem k_startG {w : Nat} {u : Int} {g : Nat → Int} (hk : kd t w = 2) (hw : ∃ s W, V w = wkW s W) : Call (d + 1) 21 [.ref w, .int (iI u)] (t, V, A, P) Q = Q none (t, up1 V w (wkW (wkG g u 0).1 (wkG g u 0).2), A, P) := by
  obtain ⟨s, W, hw⟩ := hw
  exact k_start hk hw
theorem breachesAt_loop {r : Nat} {f u m fi br bl lo p : Int} {g : Nat → Int} (hT : tabs t A) (hR : rdK t r) (hr : V r = rdR r f u m fi br bl lo) (hG : rdH A r m g) (hu : u = -1 ∨ u = 1) (h1 : p < m) : ∀ (k : Nat) (i : Int) (x : Int), 0 ≤ i → i + k = p + 1 → (i = p + 1 → x = (brG g u p.toNat : Nat)) → Ev (d + 6) 15 15 [.ref r, .int (iI p), .int (iI x), .int (iI i)] [] (t, up1 V (r + 2) (wkW (wkG g u i.toNat).1 (wkG g u i.toNat).2), A, P) Q = Q (some (.int (iI (brG g u p.toNat : Nat)))) (t, up1 V (r + 2) (wkW (wkG g u (p + 1).toNat).1 (wkG g u (p + 1).toNat).2), A, P) := by
  have r1 := hR.1
  have r4 := hR.2.2.2.1
  have m1 := hG.2.1
  intro k
  induction k with
  | zero =>
    intro i x h0 hk hx
    have : i = p + 1 := by omega
    have hx' := hx this
    subst this
    rw [x_15_15]
    have e1 : p < p + 1 := by omega
    simp (disch := first | assumption | omega | exact isB_z | exact isB_o | exact iI_in' (by assumption) (by omega) (by omega) | exact cat_int _ | exact cat_ref _ | exact cat_null | decide) only [↓x_15_0, ↓x_15_1, ↓x_15_2, ↓x_15_3, ↓x_15_6, ↓x_15_7, ↓x_15_10, ↓x_15_13, ↓x_15_14, ↓x_15_16, ↓x_15_17, ↓x_15_20, ↓x_15_21, ↓x_15_22, ↓x_15_25, ↓x_15_28, ↓x_15_29, ↓x_15_32, ↓x_15_33, ↓x_15_34, ↓x_15_37, ↓x_15_40, ↓x_15_41, ↓x_15_44, ↓x_15_47, ↓x_15_48, up1_same, up1_ne, up1_up1, us_0, us_1, us_2, us_3, us_4, us_5, us_6, us_7, us_8, us_9, us_10, us_11, rw_zero, rw_succ, Option.toList_some, Option.toList_none, List.cons_append, List.nil_append, cat_int, cat_ref, cat_null, iI_add, iI_sub, iI_mul, iI_neg, List.length_cons, List.length_nil, ↓reduceIte, va_rf_some, rdR, wkW, wkR, wiR, hr, iI_lt, e1, if_true, hx']
  | succ k ih =>
    intro i x h0 hk hx
    rw [x_15_15]
    have e1 : ¬ p < i := by omega
    have e2 : i < m := by omega
    have e3 := hG.2.2 i.toNat (by omega)
    have hr' : up1 V (r + 2) (wkW (wkG g u i.toNat).1 (wkG g u i.toNat).2) r = rdR r f u m fi br bl lo := by rw [up1_ne (by omega)]; exact hr
    simp (disch := first | assumption | omega | exact isB_z | exact isB_o | exact iI_in' (by assumption) (by omega) (by omega) | exact cat_int _ | exact cat_ref _ | exact cat_null | decide) only [↓x_15_0, ↓x_15_1, ↓x_15_2, ↓x_15_3, ↓x_15_6, ↓x_15_7, ↓x_15_10, ↓x_15_13, ↓x_15_14, ↓x_15_16, ↓x_15_17, ↓x_15_20, ↓x_15_21, ↓x_15_22, ↓x_15_25, ↓x_15_28, ↓x_15_29, ↓x_15_32, ↓x_15_33, ↓x_15_34, ↓x_15_37, ↓x_15_40, ↓x_15_41, ↓x_15_44, ↓x_15_47, ↓x_15_48, up1_same, up1_ne, up1_up1, us_0, us_1, us_2, us_3, us_4, us_5, us_6, us_7, us_8, us_9, us_10, us_11, rw_zero, rw_succ, Option.toList_some, Option.toList_none, List.cons_append, List.nil_append, cat_int, cat_ref, cat_null, iI_add, iI_sub, iI_mul, iI_neg, List.length_cons, List.length_nil, ↓reduceIte, va_rf_some, rdR, wkW, wkR, wiR, hr, iI_lt, e1, e2, if_true, if_false, k_pieceAt hR hr' hG]
    rw [k_takeG hT r4 (up1_same _ _ _) (wkG_OK g hu i.toNat) (by omega) (wkG_s g hu i.toNat) e3.2.1 e3.2.2]
    simp (disch := first | assumption | omega | exact isB_z | exact isB_o | exact iI_in' (by assumption) (by omega) (by omega) | exact cat_int _ | exact cat_ref _ | exact cat_null | decide) only [↓x_15_0, ↓x_15_1, ↓x_15_2, ↓x_15_3, ↓x_15_6, ↓x_15_7, ↓x_15_10, ↓x_15_13, ↓x_15_14, ↓x_15_16, ↓x_15_17, ↓x_15_20, ↓x_15_21, ↓x_15_22, ↓x_15_25, ↓x_15_28, ↓x_15_29, ↓x_15_32, ↓x_15_33, ↓x_15_34, ↓x_15_37, ↓x_15_40, ↓x_15_41, ↓x_15_44, ↓x_15_47, ↓x_15_48, up1_same, up1_ne, up1_up1, us_0, us_1, us_2, us_3, us_4, us_5, us_6, us_7, us_8, us_9, us_10, us_11, rw_zero, rw_succ, Option.toList_some, Option.toList_none, List.cons_append, List.nil_append, cat_int, cat_ref, cat_null, iI_add, iI_sub, iI_mul, iI_neg, List.length_cons, List.length_nil, ↓reduceIte, va_rf_some, rdR, wkW, wkR, wiR]
    have := ih (i + 1) ((tkG (wkG g u i.toNat) (g i.toNat)).2 : Nat) (by omega) (by omega) (fun q => by rw [show i = p by omega]; rfl)
    rw [show (i + 1).toNat = i.toNat + 1 by omega] at this
    exact this
theorem k_breachesAt {r : Nat} {f u m fi br bl lo p : Int} {g : Nat → Int} (hT : tabs t A) (hR : rdK t r) (hr : V r = rdR r f u m fi br bl lo) (hw : ∃ s W, V (r + 2) = wkW s W) (hG : rdH A r m g) (hu : u = -1 ∨ u = 1) (h0 : 0 ≤ p) (h1 : p < m) : Call (d + 7) 15 [.ref r, .int (iI p)] (t, V, A, P) Q = Q (some (.int (iI (brG g u p.toNat : Nat)))) (t, up1 V (r + 2) (wkW (wkG g u (p + 1).toNat).1 (wkG g u (p + 1).toNat).2), A, P) := by
  have r1 := hR.1
  have r4 := hR.2.2.2.1
  simp (disch := first | assumption | omega | exact isB_z | exact isB_o | exact iI_in' (by assumption) (by omega) (by omega) | exact cat_int _ | exact cat_ref _ | exact cat_null | decide) only [c_15, ↓x_15_0, ↓x_15_1, ↓x_15_2, ↓x_15_3, ↓x_15_6, ↓x_15_7, ↓x_15_10, ↓x_15_13, ↓x_15_14, up1_same, up1_ne, up1_up1, us_0, us_1, us_2, us_3, us_4, us_5, us_6, us_7, us_8, us_9, us_10, us_11, rw_zero, rw_succ, Option.toList_some, Option.toList_none, List.cons_append, List.nil_append, cat_int, cat_ref, cat_null, iI_add, iI_sub, iI_mul, iI_neg, List.length_cons, List.length_nil, ↓reduceIte, va_rf_some, rdR, wkW, wkR, wiR, hr, k_startG (g := g) r4 hw]
  exact breachesAt_loop hT hR hr hG hu h1 (p + 1).toNat 0 0 (by omega) (by omega) (fun q => by omega)
/-- the first of the next k that has a breach, else what is given -/
def fsF (g : Nat → Int) (u : Int) (fi : Int) (p : Nat) : Nat → Int
  | 0 => fi
  | k + 1 => fsF g u (if brG g u p = 0 then fi else if fi = -9 then p else fi) (p + 1) k
def bkF (g : Nat → Int) (u : Int) (p : Nat) : Nat → Int
  | 0 => 0
  | k + 1 => (if brG g u p = 0 then 0 else 1) + bkF g u (p + 1) k
def rdV (V : Nat → Nat → Value) (r : Nat) (f u m fi br bl lo : Int) : Prop := V r = rdR r f u m fi br bl lo ∧ (∃ s W, V (r + 2) = wkW s W) ∧ ∃ s W, V (r + 3) = wkW s W
theorem check_loop {r : Nat} {f u m bl lo fiE brE : Int} {g : Nat → Int} {V0 : Nat → Nat → Value} (hT : tabs t A) (hR : rdK t r) (hG : rdH A r m g) (hu : u = -1 ∨ u = 1)
    (hQ : ∀ V' : Nat → Nat → Value, V' r = rdR r f u m fiE brE bl lo → (∃ s W, V' (r + 2) = wkW s W) → (∀ a, a ≠ r → a ≠ r + 2 → V' a = V0 a) → Q none (t, V', A, P)) :
    ∀ (k : Nat) (i fi br : Int) (V : Nat → Nat → Value), 0 ≤ i → i + k = m → 0 ≤ br → br ≤ i → -9 ≤ fi → fi < 32 → fiE = fsF g u fi i.toNat k → brE = br + bkF g u i.toNat k → V r = rdR r f u m fi br bl lo → V (r + 2) = wkW (wkG g u i.toNat).1 (wkG g u i.toNat).2 → (∀ a, a ≠ r → a ≠ r + 2 → V a = V0 a) → Ev (d + 6) 16 24 [.ref r, .int (iI i)] [] (t, V, A, P) Q := by
  have r1 := hR.1
  have r4 := hR.2.2.2.1
  obtain ⟨m0, m1, hg⟩ := hG
  intro k
  induction k with
  | zero =>
    intro i fi br V h0 hk b0 b1 f0 f1 hf hb hr hw hV
    rw [x_16_24]
    have e1 : ¬ i < m := by omega
    simp (disch := first | assumption | omega | exact isB_z | exact isB_o | exact iI_in' (by assumption) (by omega) (by omega) | exact cat_int _ | exact cat_ref _ | exact cat_null | decide) only [↓x_16_0, ↓x_16_1, ↓x_16_3, ↓x_16_6, ↓x_16_7, ↓x_16_8, ↓x_16_11, ↓x_16_12, ↓x_16_15, ↓x_16_16, ↓x_16_19, ↓x_16_22, ↓x_16_23, ↓x_16_25, ↓x_16_26, ↓x_16_29, ↓x_16_32, ↓x_16_33, ↓x_16_36, ↓x_16_37, ↓x_16_38, ↓x_16_41, ↓x_16_44, ↓x_16_47, ↓x_16_48, ↓x_16_49, ↓x_16_52, ↓x_16_53, ↓x_16_54, ↓x_16_57, ↓x_16_58, ↓x_16_61, ↓x_16_63, ↓x_16_66, ↓x_16_67, ↓x_16_68, ↓x_16_71, ↓x_16_74, ↓x_16_77, up1_same, up1_ne, up1_up1, us_0, us_1, us_2, us_3, us_4, us_5, us_6, us_7, us_8, us_9, us_10, us_11, rw_zero, rw_succ, Option.toList_some, Option.toList_none, List.cons_append, List.nil_append, cat_int, cat_ref, cat_null, iI_add, iI_sub, iI_mul, iI_neg, List.length_cons, List.length_nil, ↓reduceIte, va_rf_some, rdR, wkW, wkR, wiR, hr, iI_lt, e1, if_false]
    simp only [fsF, bkF, Int.add_zero] at hf hb
    subst hf
    subst hb
    exact hQ V hr ⟨_, _, hw⟩ hV
  | succ k ih =>
    intro i fi br V h0 hk b0 b1 f0 f1 hf hb hr hw hV
    rw [x_16_24]
    have e2 : i < m := by omega
    have e3 := hg i.toNat (by omega)
    have hlt := tkG_lt (wkG g u i.toNat) (g i.toNat)
    have hnx : (wkG g u (i + 1).toNat) = (tkG (wkG g u i.toNat) (g i.toNat)).1 := by rw [show (i + 1).toNat = i.toNat + 1 by omega]; rfl
    have hbr : brG g u i.toNat = (tkG (wkG g u i.toNat) (g i.toNat)).2 := rfl
    have htn : (i + 1).toNat = i.toNat + 1 := by omega
    simp only [fsF, bkF, hbr] at hf hb
    simp (disch := first | assumption | omega | exact isB_z | exact isB_o | exact iI_in' (by assumption) (by omega) (by omega) | exact cat_int _ | exact cat_ref _ | exact cat_null | decide) only [↓x_16_0, ↓x_16_1, ↓x_16_3, ↓x_16_6, ↓x_16_7, ↓x_16_8, ↓x_16_11, ↓x_16_12, ↓x_16_15, ↓x_16_16, ↓x_16_19, ↓x_16_22, ↓x_16_23, ↓x_16_25, ↓x_16_26, ↓x_16_29, ↓x_16_32, ↓x_16_33, ↓x_16_36, ↓x_16_37, ↓x_16_38, ↓x_16_41, ↓x_16_44, ↓x_16_47, ↓x_16_48, ↓x_16_49, ↓x_16_52, ↓x_16_53, ↓x_16_54, ↓x_16_57, ↓x_16_58, ↓x_16_61, ↓x_16_63, ↓x_16_66, ↓x_16_67, ↓x_16_68, ↓x_16_71, ↓x_16_74, ↓x_16_77, up1_same, up1_ne, up1_up1, us_0, us_1, us_2, us_3, us_4, us_5, us_6, us_7, us_8, us_9, us_10, us_11, rw_zero, rw_succ, Option.toList_some, Option.toList_none, List.cons_append, List.nil_append, cat_int, cat_ref, cat_null, iI_add, iI_sub, iI_mul, iI_neg, List.length_cons, List.length_nil, ↓reduceIte, va_rf_some, rdR, wkW, wkR, wiR, hr, iI_lt, e2, if_true, k_pieceAt hR hr ⟨m0, m1, hg⟩]
    rw [k_takeG hT r4 hw (wkG_OK g hu i.toNat) (by omega) (wkG_s g hu i.toNat) e3.2.1 e3.2.2]
    simp (disch := first | assumption | omega | exact isB_z | exact isB_o | exact iI_in' (by assumption) (by omega) (by omega) | exact cat_int _ | exact cat_ref _ | exact cat_null | decide) only [↓x_16_0, ↓x_16_1, ↓x_16_3, ↓x_16_6, ↓x_16_7, ↓x_16_8, ↓x_16_11, ↓x_16_12, ↓x_16_15, ↓x_16_16, ↓x_16_19, ↓x_16_22, ↓x_16_23, ↓x_16_25, ↓x_16_26, ↓x_16_29, ↓x_16_32, ↓x_16_33, ↓x_16_36, ↓x_16_37, ↓x_16_38, ↓x_16_41, ↓x_16_44, ↓x_16_47, ↓x_16_48, ↓x_16_49, ↓x_16_52, ↓x_16_53, ↓x_16_54, ↓x_16_57, ↓x_16_58, ↓x_16_61, ↓x_16_63, ↓x_16_66, ↓x_16_67, ↓x_16_68, ↓x_16_71, ↓x_16_74, ↓x_16_77, up1_same, up1_ne, up1_up1, us_0, us_1, us_2, us_3, us_4, us_5, us_6, us_7, us_8, us_9, us_10, us_11, rw_zero, rw_succ, Option.toList_some, Option.toList_none, List.cons_append, List.nil_append, cat_int, cat_ref, cat_null, iI_add, iI_sub, iI_mul, iI_neg, List.length_cons, List.length_nil, ↓reduceIte, va_rf_some, rdR, wkW, wkR, wiR, hr, iI_eq]
    rw [← hnx]
    generalize (tkG (wkG g u i.toNat) (g i.toNat)).2 = z at *
    have hfr : ∀ (R1 R2 : Nat → Value) (a : Nat), a ≠ r → a ≠ r + 2 → up1 (up1 V (r + 2) R1) r R2 a = V0 a := fun R1 R2 a q1 q2 => by rw [up1_ne q1, up1_ne q2]; exact hV a q1 q2
    by_cases c : z = 0
    · subst c
      simp only [Int.natCast_zero, if_true, Int.zero_add] at hf hb ⊢
      refine ih (i + 1) fi br _ (by omega) (by omega) b0 (by omega) f0 f1 (by rw [htn]; exact hf) (by rw [htn]; exact hb) ?_ (up1_same _ _ _) (fun a q1 q2 => by rw [up1_ne q2]; exact hV a q1 q2)
      rw [up1_ne (by omega)]
      exact hr
    · have c' : ¬ (z : Int) = 0 := by omega
      simp only [c, c', if_false] at hf hb ⊢
      by_cases g9 : fi = -9
      · subst g9
        simp only [if_true] at hf ⊢
        refine ih (i + 1) i (br + 1) _ (by omega) (by omega) (by omega) (by omega) (by omega) (by omega) (by rw [htn]; rw [Int.toNat_of_nonneg h0] at hf; exact hf) (by rw [htn]; omega) (up1_same _ _ _) (by rw [up1_ne (by omega), up1_same]) (hfr _ _)
      · simp only [g9, if_false] at hf ⊢
        refine ih (i + 1) fi (br + 1) _ (by omega) (by omega) (by omega) (by omega) (by omega) (by omega) (by rw [htn]; exact hf) (by rw [htn]; omega) (up1_same _ _ _) (by rw [up1_ne (by omega), up1_same]) (hfr _ _)
theorem k_check {r : Nat} {f u m fi br bl lo : Int} {g : Nat → Int} (hT : tabs t A) (hR : rdK t r) (hr : V r = rdR r f u m fi br bl lo) (hw : ∃ s W, V (r + 2) = wkW s W) (hG : rdH A r m g) (hu : u = -1 ∨ u = 1)
    (hQ : ∀ V' : Nat → Nat → Value, V' r = rdR r f u m (fsF g u (-9) 0 m.toNat) (bkF g u 0 m.toNat) bl lo → (∃ s W, V' (r + 2) = wkW s W) → (∀ a, a ≠ r → a ≠ r + 2 → V' a = V a) → Q none (t, V', A, P)) : Call (d + 7) 16 [.ref r] (t, V, A, P) Q := by
  have r1 := hR.1
  have r4 := hR.2.2.2.1
  have m0 := hG.1
  have hw' : ∃ s W, up1 V r (rdR r f u m (-9) 0 bl lo) (r + 2) = wkW s W := by rw [up1_ne (by omega)]; exact hw
  simp (disch := first | assumption | omega | exact isB_z | exact isB_o | exact iI_in' (by assumption) (by omega) (by omega) | exact cat_int _ | exact cat_ref _ | exact cat_null | decide) only [c_16, ↓x_16_0, ↓x_16_1, ↓x_16_3, ↓x_16_6, ↓x_16_7, ↓x_16_8, ↓x_16_11, ↓x_16_12, ↓x_16_15, ↓x_16_16, ↓x_16_19, ↓x_16_22, ↓x_16_23, up1_same, up1_ne, up1_up1, us_0, us_1, us_2, us_3, us_4, us_5, us_6, us_7, us_8, us_9, us_10, us_11, rw_zero, rw_succ, Option.toList_some, Option.toList_none, List.cons_append, List.nil_append, cat_int, cat_ref, cat_null, iI_add, iI_sub, iI_mul, iI_neg, List.length_cons, List.length_nil, ↓reduceIte, va_rf_some, rdR, wkW, wkR, wiR, hr, k_startG (g := g) r4 hw']
  exact check_loop hT hR hG hu hQ m.toNat 0 (-9) 0 _ (by omega) (by omega) (by omega) (by omega) (by omega) (by omega) rfl (by rw [Int.zero_add]; rfl) (by rw [up1_ne (by omega), up1_same]) (up1_same _ _ _) (fun a q1 q2 => by rw [up1_ne q2, up1_ne q1])
end
