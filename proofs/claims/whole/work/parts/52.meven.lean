/-! THE MODEL: words behind a tail, orders -/
def bl6 (v : Int) : Nat → List Int
  | 0 => []
  | n + 1 => v / 2 ^ n % 2 :: bl6 v n
theorem bt6_bl (v : Int) : bt6 v = bl6 v 6 := by
  show [v / 32 % 2, v / 16 % 2, v / 8 % 2, v / 4 % 2, v / 2 % 2, v % 2] = [v / 2 ^ 5 % 2, v / 2 ^ 4 % 2, v / 2 ^ 3 % 2, v / 2 ^ 2 % 2, v / 2 ^ 1 % 2, v / 2 ^ 0 % 2]
  rw [show (2 : Int) ^ 5 = 32 from rfl, show (2 : Int) ^ 4 = 16 from rfl, show (2 : Int) ^ 3 = 8 from rfl, show (2 : Int) ^ 2 = 4 from rfl, show (2 : Int) ^ 1 = 2 from rfl, show (2 : Int) ^ 0 = 1 from rfl, Int.ediv_one]
/-- the tail stands at S -/
def tlS (g : Nat → Int) (S : Int × wS) : Prop := g 26 = S.1 ∧ g 27 = S.2.2.1 ∧ g 28 = S.2.2.2.1 ∧ g 29 = S.2.2.2.2
theorem orc_tab : ∀ a : Nat, a < 6 → ∀ b : Nat, b < 6 → ∀ u : Nat, u < 64 → orU (orU u a) b = orU (orU u b) a := by decide +kernel
theorem mkL_comm {a : Nat} (ha : a < 6) : ∀ (l : List Int) (u : Int), (∀ j : Nat, j < l.length → 0 ≤ l.getD j 0 ∧ l.getD j 0 < 6) → 0 ≤ u → u < 64 → mkL (orU u a) l = orU (mkL u l) a := by
  intro l
  induction l with
  | nil => intro u _ _ _; rfl
  | cons x l ih =>
    intro u h h0 h1
    have hx := h 0 (by simp)
    simp at hx
    have hp := pcor h0 h1 (j := x.toNat) (by omega)
    show mkL (orU (orU u a) x.toNat) l = orU (mkL (orU u x.toNat) l) a
    have hc := orc_tab a ha x.toNat (by omega) u.toNat (by omega)
    rw [Int.toNat_of_nonneg h0] at hc
    rw [hc]
    exact ih _ (fun j hj => by simpa using h (j + 1) (by simp; omega)) hp.2.2.1 hp.2.2.2
theorem digs_b {n : Nat} (hn : 0 < n) : ∀ (k c j : Nat), j < k → 0 ≤ (digs n k c).getD j 0 ∧ (digs n k c).getD j 0 < n := by
  intro k
  induction k with
  | zero => intro c j h; omega
  | succ k ih =>
    intro c j h
    simp only [digs]
    by_cases e : j = k
    · have hl := digs_len n k (c / n)
      have := getD_app_eq (digs n k (c / n)) ((c % n : Nat) : Int)
      rw [hl] at this
      rw [e, this]
      have := Nat.mod_lt c hn
      omega
    · rw [getD_app_lt (by rw [digs_len]; omega)]
      exact ih (c / n) j (by omega)
theorem mkL_b : ∀ (l : List Int) (u : Int), (∀ j : Nat, j < l.length → 0 ≤ l.getD j 0 ∧ l.getD j 0 < 6) → 0 ≤ u → u < 64 → 0 ≤ mkL u l ∧ mkL u l < 64 := by
  intro l
  induction l with
  | nil => intro u _ h0 h1; exact ⟨h0, h1⟩
  | cons x l ih =>
    intro u h h0 h1
    have hx := h 0 (by simp)
    simp at hx
    have hp := pcor h0 h1 (j := x.toNat) (by omega)
    exact ih _ (fun j hj => by simpa using h (j + 1) (by simp; omega)) hp.2.2.1 hp.2.2.2
theorem take_app : ∀ (l : List Int) (q : Nat), q < l.length → l.take (q + 1) = l.take q ++ [l.getD q 0] := by
  intro l
  induction l with
  | nil => intro q h; simp at h
  | cons a l ih =>
    intro q h
    cases q with
    | zero => simp
    | succ q =>
      have := ih q (by simpa using h)
      simp only [List.take_succ_cons, List.getD_cons_succ, List.cons_append]
      rw [this]
theorem shl7_tab : ∀ j : Nat, j < 7 → iI 1 <<< (iI j &&& 31) = iI (2 ^ j) := by decide +kernel
theorem emod_sub (a n : Nat) : (a : Int) - (a : Int) / (n : Int) * (n : Int) = ((a % n : Nat) : Int) := by
  have e : ((a % n : Nat) : Int) = (a : Int) % (n : Int) := rfl
  rw [e, Int.emod_def, Int.mul_comm]
section
variable {d : Nat} {t : mL} {V : Nat → Nat → Value} {A : Nat → Nat → Int32} {P : Nat → Nat → Option Nat} {μ : mM} {Q : Option Value → mM → Prop} {S : aS} {g : Nat → Int} {X : aW}
set_option maxHeartbeats 400000 in
theorem len_loop {v : Int} {kk : Value} {g0 : Nat → Int} {WE : wS} (hK : mK t) (v0 : 0 ≤ v) (v1 : v < 64) (hQ : ∀ (g' : Nat → Int) (x4 : Value), (∀ j, j ≠ 27 → j ≠ 28 → j ≠ 29 → g' j = g0 j) → g' 27 = WE.2.1 → g' 28 = WE.2.2.1 → g' 29 = WE.2.2.2 → Ev (d + 3) 117 91 [.ref 62, kk, .int (iI v), .int (iI (-1)), x4] [] (t, up1 V 62 (mdR g'), A, P) Q) :
    ∀ (n f : Nat) (m : Int) (W : wS) (g : Nat → Int) (x4 : Value), n ≤ 6 → (tkL W f (bl6 v n)).1 = WE → wOK m W → m + n ≤ 1000 → (∀ j, j ≠ 27 → j ≠ 28 → j ≠ 29 → g j = g0 j) → g 27 = W.2.1 → g 28 = W.2.2.1 → g 29 = W.2.2.2 → x4.category = 1 → Ev (d + 3) 117 19 [.ref 62, kk, .int (iI v), .int (iI ((n : Int) - 1)), x4] [] (t, up1 V 62 (mdR g), A, P) Q := by
  have m0 := hK.1
  intro n
  induction n with
  | zero =>
    intro f m W g x4 _ hE _ _ hg h27 h28 h29 _
    have hE' : W = WE := hE
    subst hE'
    rw [x_117_19]
    have e : ((0 : Nat) : Int) - 1 < 0 := by omega
    simp (disch := first | assumption | omega | exact isB_z | exact isB_o | exact iI_in' (by assumption) (by omega) (by omega) | exact cat_int _ | exact cat_ref _ | exact cat_null | decide) only [↓x_117_20, up1_same, up1_ne, up1_up1, us_0, us_1, us_2, us_3, us_4, us_5, us_6, us_7, us_8, us_9, us_10, us_11, rw_zero, rw_succ, Option.toList_some, Option.toList_none, List.cons_append, List.nil_append, cat_int, cat_ref, cat_null, iI_add, iI_sub, iI_mul, iI_neg, List.length_cons, List.length_nil, ↓reduceIte, va_rf_some, Int.reduceToNat, md_0, md_1, md_2, md_3, md_4, md_5, md_6, md_7, md_8, md_9, md_10, md_11, md_12, md_13, md_14, md_15, md_16, md_17, md_18, md_19, md_20, md_21, md_22, md_23, md_24, md_25, md_26, md_27, md_28, md_29, md_30, md_31, mu_0, mu_3, mu_7, mu_9, mu_12, mu_13, mu_14, mu_15, mu_16, mu_17, mu_18, mu_23, mu_24, mu_26, mu_27, mu_28, mu_29, i10, iI_eq, iI_lt, iI_cl, if_true, if_false, and_self, e]
    exact hQ g x4 hg h27 h28 h29
  | succ n ih =>
    intro f m W g x4 hn hE hW hm hg h27 h28 h29 x4c
    have e : ¬ ((n + 1 : Nat) : Int) - 1 < 0 := by omega
    have tn1 : (((n + 1 : Nat) : Int) - 1).toNat = n := by omega
    have hsh := sh_6 v0 v1 (j := ((n + 1 : Nat) : Int) - 1) (by omega) (by omega)
    rw [tn1] at hsh
    have ci : ((n + 1 : Nat) : Int) - 1 + -1 = (n : Int) - 1 := by omega
    have hx : 0 ≤ v / 2 ^ n % 2 ∧ v / 2 ^ n % 2 ≤ 1 := by omega
    have hE' : (tkL (wst W (v / 2 ^ n % 2)) (f ||| bfl (wst W (v / 2 ^ n % 2))) (bl6 v n)).1 = WE := hE
    have hOK := wst_OK hW hx.1 hx.2
    have ih' := ih (f ||| bfl (wst W (v / 2 ^ n % 2))) (m + 1) (wst W (v / 2 ^ n % 2))
    obtain ⟨q1, q2, q3, q4, q5, q6, q7, q8⟩ := hW
    rw [x_117_19]
    simp (disch := first | assumption | omega | exact isB_z | exact isB_o | exact iI_in' (by assumption) (by omega) (by omega) | exact cat_int _ | exact cat_ref _ | exact cat_null | decide) only [↓x_117_20, ↓x_117_23, ↓x_117_24, ↓x_117_25, ↓x_117_26, ↓x_117_27, ↓x_117_28, up1_same, up1_ne, up1_up1, us_0, us_1, us_2, us_3, us_4, us_5, us_6, us_7, us_8, us_9, us_10, us_11, rw_zero, rw_succ, Option.toList_some, Option.toList_none, List.cons_append, List.nil_append, cat_int, cat_ref, cat_null, iI_add, iI_sub, iI_mul, iI_neg, List.length_cons, List.length_nil, ↓reduceIte, va_rf_some, Int.reduceToNat, md_0, md_1, md_2, md_3, md_4, md_5, md_6, md_7, md_8, md_9, md_10, md_11, md_12, md_13, md_14, md_15, md_16, md_17, md_18, md_19, md_20, md_21, md_22, md_23, md_24, md_25, md_26, md_27, md_28, md_29, md_30, md_31, mu_0, mu_3, mu_7, mu_9, mu_12, mu_13, mu_14, mu_15, mu_16, mu_17, mu_18, mu_23, mu_24, mu_26, mu_27, mu_28, mu_29, i10, iI_eq, iI_lt, iI_cl, if_true, if_false, and_self, e, hsh]
    generalize v / 2 ^ n % 2 = x at *
    have e1 : (wst W x).2.1 = x := rfl
    have e2 : (wst W x).2.2.1 = if x = W.2.1 then W.2.2.1 + 1 else 1 := rfl
    have e3 : (wst W x).2.2.2 = max W.2.2.2 (wst W x).2.2.1 := rfl
    by_cases c : x = W.2.1
    · rw [if_pos c] at e2
      by_cases c2 : W.2.2.2 < W.2.2.1 + 1
      · simp (disch := first | assumption | omega | exact isB_z | exact isB_o | exact iI_in' (by assumption) (by omega) (by omega) | exact cat_int _ | exact cat_ref _ | exact cat_null | decide) only [↓x_117_30, ↓x_117_31, ↓x_117_33, ↓x_117_34, ↓x_117_37, ↓x_117_40, ↓x_117_41, ↓x_117_44, ↓x_117_45, ↓x_117_46, ↓x_117_49, ↓x_117_50, ↓x_117_53, ↓x_117_54, ↓x_117_56, ↓x_117_59, ↓x_117_60, ↓x_117_61, ↓x_117_64, ↓x_117_65, ↓x_117_68, ↓x_117_71, ↓x_117_72, ↓x_117_75, ↓x_117_78, ↓x_117_79, ↓x_117_82, ↓x_117_85, ↓x_117_88, up1_same, up1_ne, up1_up1, us_0, us_1, us_2, us_3, us_4, us_5, us_6, us_7, us_8, us_9, us_10, us_11, rw_zero, rw_succ, Option.toList_some, Option.toList_none, List.cons_append, List.nil_append, cat_int, cat_ref, cat_null, iI_add, iI_sub, iI_mul, iI_neg, List.length_cons, List.length_nil, ↓reduceIte, va_rf_some, Int.reduceToNat, md_0, md_1, md_2, md_3, md_4, md_5, md_6, md_7, md_8, md_9, md_10, md_11, md_12, md_13, md_14, md_15, md_16, md_17, md_18, md_19, md_20, md_21, md_22, md_23, md_24, md_25, md_26, md_27, md_28, md_29, md_30, md_31, mu_0, mu_3, mu_7, mu_9, mu_12, mu_13, mu_14, mu_15, mu_16, mu_17, mu_18, mu_23, mu_24, mu_26, mu_27, mu_28, mu_29, i10, iI_eq, iI_lt, iI_cl, if_true, if_false, and_self, h27, h28, h29, c, c2, ci]
        rw [← c]
        exact ih' _ _ (by omega) hE' hOK (by omega) (fun j h1 h2 h3 => by rw [up1_ne h3, up1_ne h1, up1_ne h2]; exact hg j h1 h2 h3) (by rw [up1_ne (by omega), up1_same]; rfl) (by rw [up1_ne (by omega), up1_ne (by omega), up1_same, e2]) (by rw [up1_same]; omega) rfl
      · simp (disch := first | assumption | omega | exact isB_z | exact isB_o | exact iI_in' (by assumption) (by omega) (by omega) | exact cat_int _ | exact cat_ref _ | exact cat_null | decide) only [↓x_117_30, ↓x_117_31, ↓x_117_33, ↓x_117_34, ↓x_117_37, ↓x_117_40, ↓x_117_41, ↓x_117_44, ↓x_117_45, ↓x_117_46, ↓x_117_49, ↓x_117_50, ↓x_117_53, ↓x_117_54, ↓x_117_56, ↓x_117_59, ↓x_117_60, ↓x_117_61, ↓x_117_64, ↓x_117_65, ↓x_117_68, ↓x_117_71, ↓x_117_72, ↓x_117_75, ↓x_117_78, ↓x_117_79, ↓x_117_82, ↓x_117_85, ↓x_117_88, up1_same, up1_ne, up1_up1, us_0, us_1, us_2, us_3, us_4, us_5, us_6, us_7, us_8, us_9, us_10, us_11, rw_zero, rw_succ, Option.toList_some, Option.toList_none, List.cons_append, List.nil_append, cat_int, cat_ref, cat_null, iI_add, iI_sub, iI_mul, iI_neg, List.length_cons, List.length_nil, ↓reduceIte, va_rf_some, Int.reduceToNat, md_0, md_1, md_2, md_3, md_4, md_5, md_6, md_7, md_8, md_9, md_10, md_11, md_12, md_13, md_14, md_15, md_16, md_17, md_18, md_19, md_20, md_21, md_22, md_23, md_24, md_25, md_26, md_27, md_28, md_29, md_30, md_31, mu_0, mu_3, mu_7, mu_9, mu_12, mu_13, mu_14, mu_15, mu_16, mu_17, mu_18, mu_23, mu_24, mu_26, mu_27, mu_28, mu_29, i10, iI_eq, iI_lt, iI_cl, if_true, if_false, and_self, h27, h28, h29, c, c2, ci]
        rw [← c]
        exact ih' _ _ (by omega) hE' hOK (by omega) (fun j h1 h2 h3 => by rw [up1_ne h3, up1_ne h1, up1_ne h2]; exact hg j h1 h2 h3) (by rw [up1_ne (by omega), up1_same]; rfl) (by rw [up1_ne (by omega), up1_ne (by omega), up1_same, e2]) (by rw [up1_same]; omega) rfl
    · rw [if_neg c] at e2
      by_cases c2 : W.2.2.2 < 1
      · simp (disch := first | assumption | omega | exact isB_z | exact isB_o | exact iI_in' (by assumption) (by omega) (by omega) | exact cat_int _ | exact cat_ref _ | exact cat_null | decide) only [↓x_117_30, ↓x_117_31, ↓x_117_33, ↓x_117_34, ↓x_117_37, ↓x_117_40, ↓x_117_41, ↓x_117_44, ↓x_117_45, ↓x_117_46, ↓x_117_49, ↓x_117_50, ↓x_117_53, ↓x_117_54, ↓x_117_56, ↓x_117_59, ↓x_117_60, ↓x_117_61, ↓x_117_64, ↓x_117_65, ↓x_117_68, ↓x_117_71, ↓x_117_72, ↓x_117_75, ↓x_117_78, ↓x_117_79, ↓x_117_82, ↓x_117_85, ↓x_117_88, up1_same, up1_ne, up1_up1, us_0, us_1, us_2, us_3, us_4, us_5, us_6, us_7, us_8, us_9, us_10, us_11, rw_zero, rw_succ, Option.toList_some, Option.toList_none, List.cons_append, List.nil_append, cat_int, cat_ref, cat_null, iI_add, iI_sub, iI_mul, iI_neg, List.length_cons, List.length_nil, ↓reduceIte, va_rf_some, Int.reduceToNat, md_0, md_1, md_2, md_3, md_4, md_5, md_6, md_7, md_8, md_9, md_10, md_11, md_12, md_13, md_14, md_15, md_16, md_17, md_18, md_19, md_20, md_21, md_22, md_23, md_24, md_25, md_26, md_27, md_28, md_29, md_30, md_31, mu_0, mu_3, mu_7, mu_9, mu_12, mu_13, mu_14, mu_15, mu_16, mu_17, mu_18, mu_23, mu_24, mu_26, mu_27, mu_28, mu_29, i10, iI_eq, iI_lt, iI_cl, if_true, if_false, and_self, h27, h28, h29, c, c2, ci]
        exact ih' _ _ (by omega) hE' hOK (by omega) (fun j h1 h2 h3 => by rw [up1_ne h3, up1_ne h1, up1_ne h2]; exact hg j h1 h2 h3) (by rw [up1_ne (by omega), up1_same]; rfl) (by rw [up1_ne (by omega), up1_ne (by omega), up1_same, e2]) (by rw [up1_same]; omega) rfl
      · simp (disch := first | assumption | omega | exact isB_z | exact isB_o | exact iI_in' (by assumption) (by omega) (by omega) | exact cat_int _ | exact cat_ref _ | exact cat_null | decide) only [↓x_117_30, ↓x_117_31, ↓x_117_33, ↓x_117_34, ↓x_117_37, ↓x_117_40, ↓x_117_41, ↓x_117_44, ↓x_117_45, ↓x_117_46, ↓x_117_49, ↓x_117_50, ↓x_117_53, ↓x_117_54, ↓x_117_56, ↓x_117_59, ↓x_117_60, ↓x_117_61, ↓x_117_64, ↓x_117_65, ↓x_117_68, ↓x_117_71, ↓x_117_72, ↓x_117_75, ↓x_117_78, ↓x_117_79, ↓x_117_82, ↓x_117_85, ↓x_117_88, up1_same, up1_ne, up1_up1, us_0, us_1, us_2, us_3, us_4, us_5, us_6, us_7, us_8, us_9, us_10, us_11, rw_zero, rw_succ, Option.toList_some, Option.toList_none, List.cons_append, List.nil_append, cat_int, cat_ref, cat_null, iI_add, iI_sub, iI_mul, iI_neg, List.length_cons, List.length_nil, ↓reduceIte, va_rf_some, Int.reduceToNat, md_0, md_1, md_2, md_3, md_4, md_5, md_6, md_7, md_8, md_9, md_10, md_11, md_12, md_13, md_14, md_15, md_16, md_17, md_18, md_19, md_20, md_21, md_22, md_23, md_24, md_25, md_26, md_27, md_28, md_29, md_30, md_31, mu_0, mu_3, mu_7, mu_9, mu_12, mu_13, mu_14, mu_15, mu_16, mu_17, mu_18, mu_23, mu_24, mu_26, mu_27, mu_28, mu_29, i10, iI_eq, iI_lt, iI_cl, if_true, if_false, and_self, h27, h28, h29, c, c2, ci]
        exact ih' _ _ (by omega) hE' hOK (by omega) (fun j h1 h2 h3 => by rw [up1_ne h3, up1_ne h1, up1_ne h2]; exact hg j h1 h2 h3) (by rw [up1_ne (by omega), up1_same]; rfl) (by rw [up1_ne (by omega), up1_ne (by omega), up1_same, e2]) (by rw [up1_same]; omega) rfl
theorem k_lengthens {k m : Int} {W : Int × wS} (hK : mK t) (h0 : 0 ≤ k) (h1 : k < 34) (hS : tlS g W) (hW : wOK m W.2) (hm : m ≤ 900) (hs : W.1 = -1 ∨ W.1 = 1) (hQ : ∀ g' : Nat → Int, (∀ j, j < 26 ∨ 29 < j → g' j = g j) → tlS g' (tkG W (fD k W.1)).1 → Q none (t, up1 V 62 (mdR g'), A, P)) : Call (d + 4) 117 [.ref 62, .int (iI k)] (t, up1 V 62 (mdR g), A, P) Q := by
  have hK' := hK
  obtain ⟨m0, ⟨m1, l1⟩, ⟨m2, l2⟩, ⟨m3, l3⟩, ⟨m4, l4⟩, ⟨m5, l5⟩, ⟨m6, l6⟩, ⟨m7, l7⟩, ⟨m8, l8⟩, ⟨m9, l9⟩, ⟨m10, l10⟩, ⟨m11, l11⟩, ⟨m12, l12⟩, ⟨m13, l13⟩, ⟨m14, l14⟩, m15, l15⟩ := hK
  obtain ⟨h26, h27, h28, h29⟩ := hS
  have hv := fD_b W.1 h0 h1
  have hD := fO_D (k := k) hs
  have hp := pc_b hv.1 hv.2
  have hsB := sB_D h0 h1 hs
  have hE : (tkG W (fD k W.1)).1.2 = (tkL W.2 (fbr (fD k W.1) W.1) (bl6 (fD k W.1) 6)).1 := by rw [← bt6_bl]; rfl
  have hE1 : (tkG W (fD k W.1)).1.1 = sB (fD k W.1) W.1 := rfl
  have hform : Call (d + 4) 117 [.ref 62, .int (iI k)] (t, up1 V 62 (mdR g), A, P) Q = Ev (d + 3) 117 16 [.ref 62, .int (iI k), .null, .null, .null] [.int (iI (fD k W.1))] (t, up1 V 62 (mdR g), A, P) Q := by
    by_cases c : W.1 < 0
    · rw [if_pos c] at hD
      simp (disch := first | assumption | omega | exact isB_z | exact isB_o | exact iI_in' (by assumption) (by omega) (by omega) | exact cat_int _ | exact cat_ref _ | exact cat_null | decide) only [c_117, ↓x_117_0, ↓x_117_1, ↓x_117_2, ↓x_117_5, ↓x_117_8, ↓x_117_9, ↓x_117_12, ↓x_117_13, up1_same, up1_ne, up1_up1, us_0, us_1, us_2, us_3, us_4, us_5, us_6, us_7, us_8, us_9, us_10, us_11, rw_zero, rw_succ, Option.toList_some, Option.toList_none, List.cons_append, List.nil_append, cat_int, cat_ref, cat_null, iI_add, iI_sub, iI_mul, iI_neg, List.length_cons, List.length_nil, ↓reduceIte, va_rf_some, Int.reduceToNat, md_0, md_1, md_2, md_3, md_4, md_5, md_6, md_7, md_8, md_9, md_10, md_11, md_12, md_13, md_14, md_15, md_16, md_17, md_18, md_19, md_20, md_21, md_22, md_23, md_24, md_25, md_26, md_27, md_28, md_29, md_30, md_31, mu_0, mu_3, mu_7, mu_9, mu_12, mu_13, mu_14, mu_15, mu_16, mu_17, mu_18, mu_23, mu_24, mu_26, mu_27, mu_28, mu_29, i10, iI_eq, iI_lt, iI_cl, if_true, if_false, and_self, h26, c, k_formOf h0 h1, hD]
    · rw [if_neg c] at hD
      simp (disch := first | assumption | omega | exact isB_z | exact isB_o | exact iI_in' (by assumption) (by omega) (by omega) | exact cat_int _ | exact cat_ref _ | exact cat_null | decide) only [c_117, ↓x_117_0, ↓x_117_1, ↓x_117_2, ↓x_117_5, ↓x_117_8, ↓x_117_9, ↓x_117_12, ↓x_117_13, up1_same, up1_ne, up1_up1, us_0, us_1, us_2, us_3, us_4, us_5, us_6, us_7, us_8, us_9, us_10, us_11, rw_zero, rw_succ, Option.toList_some, Option.toList_none, List.cons_append, List.nil_append, cat_int, cat_ref, cat_null, iI_add, iI_sub, iI_mul, iI_neg, List.length_cons, List.length_nil, ↓reduceIte, va_rf_some, Int.reduceToNat, md_0, md_1, md_2, md_3, md_4, md_5, md_6, md_7, md_8, md_9, md_10, md_11, md_12, md_13, md_14, md_15, md_16, md_17, md_18, md_19, md_20, md_21, md_22, md_23, md_24, md_25, md_26, md_27, md_28, md_29, md_30, md_31, mu_0, mu_3, mu_7, mu_9, mu_12, mu_13, mu_14, mu_15, mu_16, mu_17, mu_18, mu_23, mu_24, mu_26, mu_27, mu_28, mu_29, i10, iI_eq, iI_lt, iI_cl, if_true, if_false, and_self, h26, c, k_formOf h0 h1 (Or.inr rfl), hD]
  rw [hform]
  simp (disch := first | assumption | omega | exact isB_z | exact isB_o | exact iI_in' (by assumption) (by omega) (by omega) | exact cat_int _ | exact cat_ref _ | exact cat_null | decide) only [↓x_117_16, ↓x_117_17, ↓x_117_18, up1_same, up1_ne, up1_up1, us_0, us_1, us_2, us_3, us_4, us_5, us_6, us_7, us_8, us_9, us_10, us_11, rw_zero, rw_succ, Option.toList_some, Option.toList_none, List.cons_append, List.nil_append, cat_int, cat_ref, cat_null, iI_add, iI_sub, iI_mul, iI_neg, List.length_cons, List.length_nil, ↓reduceIte, va_rf_some, Int.reduceToNat, md_0, md_1, md_2, md_3, md_4, md_5, md_6, md_7, md_8, md_9, md_10, md_11, md_12, md_13, md_14, md_15, md_16, md_17, md_18, md_19, md_20, md_21, md_22, md_23, md_24, md_25, md_26, md_27, md_28, md_29, md_30, md_31, mu_0, mu_3, mu_7, mu_9, mu_12, mu_13, mu_14, mu_15, mu_16, mu_17, mu_18, mu_23, mu_24, mu_26, mu_27, mu_28, mu_29]
  rw [show iI 5 = iI (((6 : Nat) : Int) - 1) from rfl]
  refine len_loop (d := d) (WE := (tkG W (fD k W.1)).1.2) (g0 := g) hK' hv.1 hv.2 (fun g1 x4 q1 q2 q3 q4 => ?_) 6 (fbr (fD k W.1) W.1) m W.2 g _ (by omega) hE.symm hW (by omega) (fun _ _ _ _ => rfl) h27 h28 h29 rfl
  have z26 : g1 26 = W.1 := (q1 26 (by omega) (by omega) (by omega)).trans h26
  simp (disch := first | assumption | omega | exact isB_z | exact isB_o | exact iI_in' (by assumption) (by omega) (by omega) | exact cat_int _ | exact cat_ref _ | exact cat_null | decide) only [↓x_117_91, ↓x_117_92, ↓x_117_93, ↓x_117_96, ↓x_117_97, up1_same, up1_ne, up1_up1, us_0, us_1, us_2, us_3, us_4, us_5, us_6, us_7, us_8, us_9, us_10, us_11, rw_zero, rw_succ, Option.toList_some, Option.toList_none, List.cons_append, List.nil_append, cat_int, cat_ref, cat_null, iI_add, iI_sub, iI_mul, iI_neg, List.length_cons, List.length_nil, ↓reduceIte, va_rf_some, Int.reduceToNat, md_0, md_1, md_2, md_3, md_4, md_5, md_6, md_7, md_8, md_9, md_10, md_11, md_12, md_13, md_14, md_15, md_16, md_17, md_18, md_19, md_20, md_21, md_22, md_23, md_24, md_25, md_26, md_27, md_28, md_29, md_30, md_31, mu_0, mu_3, mu_7, mu_9, mu_12, mu_13, mu_14, mu_15, mu_16, mu_17, mu_18, mu_23, mu_24, mu_26, mu_27, mu_28, mu_29, i10, iI_eq, iI_lt, iI_cl, if_true, if_false, and_self, k_onesM hv.1 hv.2]
  by_cases c : pcI (fD k W.1) = 3
  · rw [if_pos c] at hsB ⊢
    simp (disch := first | assumption | omega | exact isB_z | exact isB_o | exact iI_in' (by assumption) (by omega) (by omega) | exact cat_int _ | exact cat_ref _ | exact cat_null | decide) only [↓x_117_100, ↓x_117_101, ↓x_117_104, ↓x_117_107, ↓x_117_108, ↓x_117_111, ↓x_117_112, ↓x_117_115, up1_same, up1_ne, up1_up1, us_0, us_1, us_2, us_3, us_4, us_5, us_6, us_7, us_8, us_9, us_10, us_11, rw_zero, rw_succ, Option.toList_some, Option.toList_none, List.cons_append, List.nil_append, cat_int, cat_ref, cat_null, iI_add, iI_sub, iI_mul, iI_neg, List.length_cons, List.length_nil, ↓reduceIte, va_rf_some, Int.reduceToNat, md_0, md_1, md_2, md_3, md_4, md_5, md_6, md_7, md_8, md_9, md_10, md_11, md_12, md_13, md_14, md_15, md_16, md_17, md_18, md_19, md_20, md_21, md_22, md_23, md_24, md_25, md_26, md_27, md_28, md_29, md_30, md_31, mu_0, mu_3, mu_7, mu_9, mu_12, mu_13, mu_14, mu_15, mu_16, mu_17, mu_18, mu_23, mu_24, mu_26, mu_27, mu_28, mu_29, i10, iI_eq, iI_lt, iI_cl, if_true, if_false, and_self, z26]
    exact hQ _ (fun j hj => by rw [up1_ne (by omega)]; exact q1 j (by omega) (by omega) (by omega)) ⟨by rw [up1_same, hE1, ← hsB], by rw [up1_ne (by omega)]; exact q2, by rw [up1_ne (by omega)]; exact q3, by rw [up1_ne (by omega)]; exact q4⟩
  · rw [if_neg c] at hsB ⊢
    simp (disch := first | assumption | omega | exact isB_z | exact isB_o | exact iI_in' (by assumption) (by omega) (by omega) | exact cat_int _ | exact cat_ref _ | exact cat_null | decide) only [↓x_117_100, ↓x_117_101, ↓x_117_104, ↓x_117_107, ↓x_117_108, ↓x_117_111, ↓x_117_112, ↓x_117_115, up1_same, up1_ne, up1_up1, us_0, us_1, us_2, us_3, us_4, us_5, us_6, us_7, us_8, us_9, us_10, us_11, rw_zero, rw_succ, Option.toList_some, Option.toList_none, List.cons_append, List.nil_append, cat_int, cat_ref, cat_null, iI_add, iI_sub, iI_mul, iI_neg, List.length_cons, List.length_nil, ↓reduceIte, va_rf_some, Int.reduceToNat, md_0, md_1, md_2, md_3, md_4, md_5, md_6, md_7, md_8, md_9, md_10, md_11, md_12, md_13, md_14, md_15, md_16, md_17, md_18, md_19, md_20, md_21, md_22, md_23, md_24, md_25, md_26, md_27, md_28, md_29, md_30, md_31, mu_0, mu_3, mu_7, mu_9, mu_12, mu_13, mu_14, mu_15, mu_16, mu_17, mu_18, mu_23, mu_24, mu_26, mu_27, mu_28, mu_29, i10, iI_eq, iI_lt, iI_cl, if_true, if_false, and_self, z26]
    exact hQ _ (fun j hj => by rw [up1_ne (by omega)]; exact q1 j (by omega) (by omega) (by omega)) ⟨by rw [up1_same, hE1, ← hsB], by rw [up1_ne (by omega)]; exact q2, by rw [up1_ne (by omega)]; exact q3, by rw [up1_ne (by omega)]; exact q4⟩
theorem ahead_loopM {many : Nat} {g0 : Nat → Int} (hK : mK t) (hX : wf X) (hm : mH (A 63) X) (hl : many ≤ X.1.length) (hQ : ∀ g' : Nat → Int, (∀ j, j < 26 ∨ 29 < j → g' j = g0 j) → tlS g' (wkG (sntG X) (-1) many) → Q none (t, up1 V 62 (mdR g'), A, P)) : ∀ (k w : Nat) (g : Nat → Int), w + k = many → (∀ j, j < 26 ∨ 29 < j → g j = g0 j) → tlS g (wkG (sntG X) (-1) w) → Ev (d + 4) 119 23 [.ref 62, .int (iI many), .int (iI w)] [] (t, up1 V 62 (mdR g), A, P) Q := by
  have hK' := hK
  obtain ⟨m0, ⟨m1, l1⟩, ⟨m2, l2⟩, ⟨m3, l3⟩, ⟨m4, l4⟩, ⟨m5, l5⟩, ⟨m6, l6⟩, ⟨m7, l7⟩, ⟨m8, l8⟩, ⟨m9, l9⟩, ⟨m10, l10⟩, ⟨m11, l11⟩, ⟨m12, l12⟩, ⟨m13, l13⟩, ⟨m14, l14⟩, m15, l15⟩ := hK
  have hX1 := hX.1
  intro k
  induction k with
  | zero =>
    intro w g hw hg hS
    have : w = many := by omega
    subst this
    have e : ¬ (w : Int) < w := by omega
    rw [x_119_23]
    simp (disch := first | assumption | omega | exact isB_z | exact isB_o | exact iI_in' (by assumption) (by omega) (by omega) | exact cat_int _ | exact cat_ref _ | exact cat_null | decide) only [↓x_119_24, ↓x_119_25, ↓x_119_46, up1_same, up1_ne, up1_up1, us_0, us_1, us_2, us_3, us_4, us_5, us_6, us_7, us_8, us_9, us_10, us_11, rw_zero, rw_succ, Option.toList_some, Option.toList_none, List.cons_append, List.nil_append, cat_int, cat_ref, cat_null, iI_add, iI_sub, iI_mul, iI_neg, List.length_cons, List.length_nil, ↓reduceIte, va_rf_some, Int.reduceToNat, md_0, md_1, md_2, md_3, md_4, md_5, md_6, md_7, md_8, md_9, md_10, md_11, md_12, md_13, md_14, md_15, md_16, md_17, md_18, md_19, md_20, md_21, md_22, md_23, md_24, md_25, md_26, md_27, md_28, md_29, md_30, md_31, mu_0, mu_3, mu_7, mu_9, mu_12, mu_13, mu_14, mu_15, mu_16, mu_17, mu_18, mu_23, mu_24, mu_26, mu_27, mu_28, mu_29, i10, iI_eq, iI_lt, iI_cl, if_true, if_false, and_self, e]
    exact hQ g hg hS
  | succ k ih =>
    intro w g hw hg hS
    have e : (w : Int) < many := by omega
    have tn2 : (4 + (w : Int)).toNat = 4 + w := by omega
    have ci : (w : Int) + 1 = ((w + 1 : Nat) : Int) := by omega
    have hk : A 63 (4 + w) = iI (X.1.getD w 0) := hm.h4 w (by omega)
    have hkb := hX.2.2.1 w (by omega)
    have hsn := snt_wk X w (by omega)
    rw [x_119_23]
    simp (disch := first | assumption | omega | exact isB_z | exact isB_o | exact iI_in' (by assumption) (by omega) (by omega) | exact cat_int _ | exact cat_ref _ | exact cat_null | decide) only [↓x_119_24, ↓x_119_25, ↓x_119_28, ↓x_119_29, ↓x_119_30, ↓x_119_33, ↓x_119_34, ↓x_119_35, ↓x_119_36, up1_same, up1_ne, up1_up1, us_0, us_1, us_2, us_3, us_4, us_5, us_6, us_7, us_8, us_9, us_10, us_11, rw_zero, rw_succ, Option.toList_some, Option.toList_none, List.cons_append, List.nil_append, cat_int, cat_ref, cat_null, iI_add, iI_sub, iI_mul, iI_neg, List.length_cons, List.length_nil, ↓reduceIte, va_rf_some, Int.reduceToNat, md_0, md_1, md_2, md_3, md_4, md_5, md_6, md_7, md_8, md_9, md_10, md_11, md_12, md_13, md_14, md_15, md_16, md_17, md_18, md_19, md_20, md_21, md_22, md_23, md_24, md_25, md_26, md_27, md_28, md_29, md_30, md_31, mu_0, mu_3, mu_7, mu_9, mu_12, mu_13, mu_14, mu_15, mu_16, mu_17, mu_18, mu_23, mu_24, mu_26, mu_27, mu_28, mu_29, i10, iI_eq, iI_lt, iI_cl, if_true, if_false, and_self, e, tn2, hk]
    simp (disch := first | assumption | omega | exact isB_z | exact isB_o | exact iI_in' (by assumption) (by omega) (by omega) | exact cat_int _ | exact cat_ref _ | exact cat_null | decide) only [↓x_119_37, up1_same, up1_ne, up1_up1, us_0, us_1, us_2, us_3, us_4, us_5, us_6, us_7, us_8, us_9, us_10, us_11, rw_zero, rw_succ, Option.toList_some, Option.toList_none, List.cons_append, List.nil_append, cat_int, cat_ref, cat_null, iI_add, iI_sub, iI_mul, iI_neg, List.length_cons, List.length_nil, ↓reduceIte, va_rf_some, Int.reduceToNat, md_0, md_1, md_2, md_3, md_4, md_5, md_6, md_7, md_8, md_9, md_10, md_11, md_12, md_13, md_14, md_15, md_16, md_17, md_18, md_19, md_20, md_21, md_22, md_23, md_24, md_25, md_26, md_27, md_28, md_29, md_30, md_31, mu_0, mu_3, mu_7, mu_9, mu_12, mu_13, mu_14, mu_15, mu_16, mu_17, mu_18, mu_23, mu_24, mu_26, mu_27, mu_28, mu_29]
    refine k_lengthens (m := 6 * w) hK' hkb.1 hkb.2 hS (wkG_OK _ (Or.inl rfl) w) (by omega) (wkG_s _ (Or.inl rfl) w) (fun g1 q1 q2 => ?_)
    simp (disch := first | assumption | omega | exact isB_z | exact isB_o | exact iI_in' (by assumption) (by omega) (by omega) | exact cat_int _ | exact cat_ref _ | exact cat_null | decide) only [↓x_119_40, ↓x_119_43, up1_same, up1_ne, up1_up1, us_0, us_1, us_2, us_3, us_4, us_5, us_6, us_7, us_8, us_9, us_10, us_11, rw_zero, rw_succ, Option.toList_some, Option.toList_none, List.cons_append, List.nil_append, cat_int, cat_ref, cat_null, iI_add, iI_sub, iI_mul, iI_neg, List.length_cons, List.length_nil, ↓reduceIte, va_rf_some, Int.reduceToNat, md_0, md_1, md_2, md_3, md_4, md_5, md_6, md_7, md_8, md_9, md_10, md_11, md_12, md_13, md_14, md_15, md_16, md_17, md_18, md_19, md_20, md_21, md_22, md_23, md_24, md_25, md_26, md_27, md_28, md_29, md_30, md_31, mu_0, mu_3, mu_7, mu_9, mu_12, mu_13, mu_14, mu_15, mu_16, mu_17, mu_18, mu_23, mu_24, mu_26, mu_27, mu_28, mu_29, i10, iI_eq, iI_lt, iI_cl, if_true, if_false, and_self, ci]
    rw [hsn] at q2
    exact ih (w + 1) g1 (by omega) (fun j hj => (q1 j hj).trans (hg j hj)) q2
theorem k_laysAhead {many : Nat} (hK : mK t) (hX : wf X) (hm : mH (A 63) X) (hl : many ≤ X.1.length) (hQ : ∀ g' : Nat → Int, (∀ j, j < 26 ∨ 29 < j → g' j = g j) → tlS g' (wkG (sntG X) (-1) many) → Q none (t, up1 V 62 (mdR g'), A, P)) : Call (d + 5) 119 [.ref 62, .int (iI many)] (t, up1 V 62 (mdR g), A, P) Q := by
  have m0 := hK.1
  simp (disch := first | assumption | omega | exact isB_z | exact isB_o | exact iI_in' (by assumption) (by omega) (by omega) | exact cat_int _ | exact cat_ref _ | exact cat_null | decide) only [c_119, ↓x_119_0, ↓x_119_1, ↓x_119_2, ↓x_119_5, ↓x_119_6, ↓x_119_8, ↓x_119_11, ↓x_119_12, ↓x_119_13, ↓x_119_16, ↓x_119_17, ↓x_119_18, ↓x_119_21, ↓x_119_22, up1_same, up1_ne, up1_up1, us_0, us_1, us_2, us_3, us_4, us_5, us_6, us_7, us_8, us_9, us_10, us_11, rw_zero, rw_succ, Option.toList_some, Option.toList_none, List.cons_append, List.nil_append, cat_int, cat_ref, cat_null, iI_add, iI_sub, iI_mul, iI_neg, List.length_cons, List.length_nil, ↓reduceIte, va_rf_some, Int.reduceToNat, md_0, md_1, md_2, md_3, md_4, md_5, md_6, md_7, md_8, md_9, md_10, md_11, md_12, md_13, md_14, md_15, md_16, md_17, md_18, md_19, md_20, md_21, md_22, md_23, md_24, md_25, md_26, md_27, md_28, md_29, md_30, md_31, mu_0, mu_3, mu_7, mu_9, mu_12, mu_13, mu_14, mu_15, mu_16, mu_17, mu_18, mu_23, mu_24, mu_26, mu_27, mu_28, mu_29]
  refine ahead_loopM (d := d) (g0 := g) hK hX hm hl hQ many 0 _ (by omega) (fun j hj => by rw [up1_ne (by omega), up1_ne (by omega), up1_ne (by omega), up1_ne (by omega)]) ⟨?_, ?_, ?_, ?_⟩
  · rw [up1_ne (by omega), up1_ne (by omega), up1_ne (by omega), up1_same]; rfl
  · rw [up1_ne (by omega), up1_ne (by omega), up1_same]; rfl
  · rw [up1_ne (by omega), up1_same]; rfl
  · rw [up1_same]; rfl
set_option maxHeartbeats 400000 in
theorem order_loop {n : Nat} {code : Value} (hK : mK t) (hn0 : 0 < n) (hn : n ≤ 6) : ∀ (k left : Nat) (set' : Int) (A : Nat → Nat → Int32) (Q : Option Value → mM → Prop), k ≤ n → left < 100000 → 0 ≤ set' → set' < 64 → (∀ (A' : Nat → Nat → Int32) (x : Value), (∀ j : Nat, j < k → A' 76 j = iI ((digs n k left).getD j 0)) → (∀ j : Nat, k ≤ j → A' 76 j = A 76 j) → (∀ a, a ≠ 76 → A' a = A a) → Ev (d + 1) 118 50 [.ref 62, code, .int (iI n), .int (iI (mkL set' (digs n k left))), x, .int (iI (-1))] [] (t, up1 V 62 (mdR g), A', P) Q) → Ev (d + 1) 118 10 [.ref 62, code, .int (iI n), .int (iI set'), .int (iI left), .int (iI ((k : Int) - 1))] [] (t, up1 V 62 (mdR g), A, P) Q := by
  have hK' := hK
  obtain ⟨m0, ⟨m1, l1⟩, ⟨m2, l2⟩, ⟨m3, l3⟩, ⟨m4, l4⟩, ⟨m5, l5⟩, ⟨m6, l6⟩, ⟨m7, l7⟩, ⟨m8, l8⟩, ⟨m9, l9⟩, ⟨m10, l10⟩, ⟨m11, l11⟩, ⟨m12, l12⟩, ⟨m13, l13⟩, ⟨m14, l14⟩, m15, l15⟩ := hK
  intro k
  induction k with
  | zero =>
    intro left set' A Q _ _ _ _ hQ
    have e : ((0 : Nat) : Int) - 1 < 0 := by omega
    rw [x_118_10]
    simp (disch := first | assumption | omega | exact isB_z | exact isB_o | exact iI_in' (by assumption) (by omega) (by omega) | exact cat_int _ | exact cat_ref _ | exact cat_null | decide) only [↓x_118_12, up1_same, up1_ne, up1_up1, us_0, us_1, us_2, us_3, us_4, us_5, us_6, us_7, us_8, us_9, us_10, us_11, rw_zero, rw_succ, Option.toList_some, Option.toList_none, List.cons_append, List.nil_append, cat_int, cat_ref, cat_null, iI_add, iI_sub, iI_mul, iI_neg, List.length_cons, List.length_nil, ↓reduceIte, va_rf_some, Int.reduceToNat, md_0, md_1, md_2, md_3, md_4, md_5, md_6, md_7, md_8, md_9, md_10, md_11, md_12, md_13, md_14, md_15, md_16, md_17, md_18, md_19, md_20, md_21, md_22, md_23, md_24, md_25, md_26, md_27, md_28, md_29, md_30, md_31, mu_0, mu_3, mu_7, mu_9, mu_12, mu_13, mu_14, mu_15, mu_16, mu_17, mu_18, mu_23, mu_24, mu_26, mu_27, mu_28, mu_29, i10, iI_eq, iI_lt, iI_cl, if_true, if_false, and_self, e]
    exact hQ A _ (fun j hj => absurd hj (by omega)) (fun _ _ => rfl) (fun _ _ => rfl)
  | succ k ih =>
    intro left set' A Q hk hl s0 s1 hQ
    have e : ¬ ((k + 1 : Nat) : Int) - 1 < 0 := by omega
    have e1 : ((k + 1 : Nat) : Int) - 1 = (k : Int) := by omega
    have tn1 : ((k : Nat) : Int).toNat = k := Int.toNat_natCast _
    have hml := Nat.mod_lt left hn0
    have hdl : left / n ≤ left := Nat.div_le_self _ _
    have hem := emod_sub left n
    have hed : (left : Int) / (n : Int) = ((left / n : Nat) : Int) := (Int.natCast_ediv _ _).symm
    have hnn : ¬ iI (n : Int) = 0 := iI_n0 (by omega) (by omega)
    have hdv : iI (left : Int) / iI (n : Int) = iI ((left / n : Nat) : Int) := by rw [iI_div (by omega) (by omega) (by omega) (by omega), hed]
    rw [hed] at hem
    have hsh := shl7_tab (left % n) (by omega)
    have hor := or_6 s0 s1 (j := left % n) (by omega)
    have hdg : digs n (k + 1) left = digs n k (left / n) ++ [((left % n : Nat) : Int)] := rfl
    have hdl2 := digs_len n k (left / n)
    have hcomm := mkL_comm (a := left % n) (by omega) (digs n k (left / n)) set' (fun j hj => by rw [hdl2] at hj; have := digs_b hn0 k (left / n) j hj; omega) s0 s1
    have hci : (k : Int) + -1 = (k : Int) - 1 := by omega
    rw [x_118_10]
    simp (disch := first | assumption | omega | exact isB_z | exact isB_o | exact iI_in' (by assumption) (by omega) (by omega) | exact cat_int _ | exact cat_ref _ | exact cat_null | decide) only [↓x_118_12, ↓x_118_15, ↓x_118_16, ↓x_118_19, up1_same, up1_ne, up1_up1, us_0, us_1, us_2, us_3, us_4, us_5, us_6, us_7, us_8, us_9, us_10, us_11, rw_zero, rw_succ, Option.toList_some, Option.toList_none, List.cons_append, List.nil_append, cat_int, cat_ref, cat_null, iI_add, iI_sub, iI_mul, iI_neg, List.length_cons, List.length_nil, ↓reduceIte, va_rf_some, Int.reduceToNat, md_0, md_1, md_2, md_3, md_4, md_5, md_6, md_7, md_8, md_9, md_10, md_11, md_12, md_13, md_14, md_15, md_16, md_17, md_18, md_19, md_20, md_21, md_22, md_23, md_24, md_25, md_26, md_27, md_28, md_29, md_30, md_31, mu_0, mu_3, mu_7, mu_9, mu_12, mu_13, mu_14, mu_15, mu_16, mu_17, mu_18, mu_23, mu_24, mu_26, mu_27, mu_28, mu_29, i10, iI_eq, iI_lt, iI_cl, if_true, if_false, and_self, e, e1]
    simp (disch := first | assumption | omega | exact isB_z | exact isB_o | exact iI_in' (by assumption) (by omega) (by omega) | exact cat_int _ | exact cat_ref _ | exact cat_null | decide) only [↓x_118_21, ↓x_118_23, ↓x_118_24, ↓x_118_25, ↓x_118_26, ↓x_118_28, ↓x_118_29, ↓x_118_30, ↓x_118_32, ↓x_118_33, ↓x_118_34, ↓x_118_35, ↓x_118_38, ↓x_118_40, ↓x_118_41, ↓x_118_42, ↓x_118_43, up1_same, up1_ne, up1_up1, us_0, us_1, us_2, us_3, us_4, us_5, us_6, us_7, us_8, us_9, us_10, us_11, rw_zero, rw_succ, Option.toList_some, Option.toList_none, List.cons_append, List.nil_append, cat_int, cat_ref, cat_null, iI_add, iI_sub, iI_mul, iI_neg, List.length_cons, List.length_nil, ↓reduceIte, va_rf_some, Int.reduceToNat, md_0, md_1, md_2, md_3, md_4, md_5, md_6, md_7, md_8, md_9, md_10, md_11, md_12, md_13, md_14, md_15, md_16, md_17, md_18, md_19, md_20, md_21, md_22, md_23, md_24, md_25, md_26, md_27, md_28, md_29, md_30, md_31, mu_0, mu_3, mu_7, mu_9, mu_12, mu_13, mu_14, mu_15, mu_16, mu_17, mu_18, mu_23, mu_24, mu_26, mu_27, mu_28, mu_29, i10, iI_eq, iI_lt, iI_cl, if_true, if_false, and_self, hnn, hdv, hem, tn1, upd_same, hsh, hor.1]
    simp (disch := first | assumption | omega | exact isB_z | exact isB_o | exact iI_in' (by assumption) (by omega) (by omega) | exact cat_int _ | exact cat_ref _ | exact cat_null | decide) only [↓x_118_44, ↓x_118_47, up1_same, up1_ne, up1_up1, us_0, us_1, us_2, us_3, us_4, us_5, us_6, us_7, us_8, us_9, us_10, us_11, rw_zero, rw_succ, Option.toList_some, Option.toList_none, List.cons_append, List.nil_append, cat_int, cat_ref, cat_null, iI_add, iI_sub, iI_mul, iI_neg, List.length_cons, List.length_nil, ↓reduceIte, va_rf_some, Int.reduceToNat, md_0, md_1, md_2, md_3, md_4, md_5, md_6, md_7, md_8, md_9, md_10, md_11, md_12, md_13, md_14, md_15, md_16, md_17, md_18, md_19, md_20, md_21, md_22, md_23, md_24, md_25, md_26, md_27, md_28, md_29, md_30, md_31, mu_0, mu_3, mu_7, mu_9, mu_12, mu_13, mu_14, mu_15, mu_16, mu_17, mu_18, mu_23, mu_24, mu_26, mu_27, mu_28, mu_29, i10, iI_eq, iI_lt, iI_cl, if_true, if_false, and_self, hci]
    refine ih (left / n) (orU set' (left % n)) _ Q (by omega) (by omega) hor.2.1 hor.2.2 (fun A' x q1 q2 q3 => ?_)
    rw [hcomm]
    have hmk : orU (mkL set' (digs n k (left / n))) (left % n) = mkL set' (digs n (k + 1) left) := by
      rw [hdg, mkL_app, Int.toNat_natCast]
    rw [hmk]
    refine hQ A' x (fun j hj => ?_) (fun j hj => ?_) (fun a ha => by rw [q3 a ha, up1_ne ha])
    · rw [hdg]
      by_cases c : j = k
      · have hh := getD_app_eq (digs n k (left / n)) ((left % n : Nat) : Int)
        rw [hdl2] at hh
        rw [c, hh, q2 k (Nat.le_refl _), up1_same, upd_same]
      · rw [getD_app_lt (by omega), q1 j (by omega)]
    · rw [q2 j (by omega), up1_same, upd_ne (by omega)]
theorem p2n_tab : ∀ n : Nat, n < 7 → (2 : Int) ^ n - 1 ≤ 63 ∧ 0 ≤ (2 : Int) ^ n - 1 := by decide +kernel
theorem k_isOrder {n c : Nat} (hK : mK t) (hn0 : 0 < n) (hn : n ≤ 6) (hc : c < 100000) (hQ : ∀ A' : Nat → Nat → Int32, (∀ j : Nat, j < n → A' 76 j = iI ((digs n n c).getD j 0)) → (∀ a, a ≠ 76 → A' a = A a) → Q (some (.int (iI (if mkL 0 (digs n n c) = 2 ^ n - 1 then 1 else 0)))) (t, up1 V 62 (mdR g), A', P)) : Call (d + 2) 118 [.ref 62, .int (iI c), .int (iI n)] (t, up1 V 62 (mdR g), A, P) Q := by
  have m0 := hK.1
  simp (disch := first | assumption | omega | exact isB_z | exact isB_o | exact iI_in' (by assumption) (by omega) (by omega) | exact cat_int _ | exact cat_ref _ | exact cat_null | decide) only [c_118, ↓x_118_0, ↓x_118_1, ↓x_118_2, ↓x_118_3, ↓x_118_5, ↓x_118_6, ↓x_118_7, ↓x_118_8, up1_same, up1_ne, up1_up1, us_0, us_1, us_2, us_3, us_4, us_5, us_6, us_7, us_8, us_9, us_10, us_11, rw_zero, rw_succ, Option.toList_some, Option.toList_none, List.cons_append, List.nil_append, cat_int, cat_ref, cat_null, iI_add, iI_sub, iI_mul, iI_neg, List.length_cons, List.length_nil, ↓reduceIte, va_rf_some, Int.reduceToNat, md_0, md_1, md_2, md_3, md_4, md_5, md_6, md_7, md_8, md_9, md_10, md_11, md_12, md_13, md_14, md_15, md_16, md_17, md_18, md_19, md_20, md_21, md_22, md_23, md_24, md_25, md_26, md_27, md_28, md_29, md_30, md_31, mu_0, mu_3, mu_7, mu_9, mu_12, mu_13, mu_14, mu_15, mu_16, mu_17, mu_18, mu_23, mu_24, mu_26, mu_27, mu_28, mu_29]
  refine order_loop (d := d) hK hn0 hn n c 0 A Q (Nat.le_refl _) hc (by omega) (by omega) (fun A' x q1 q2 q3 => ?_)
  have hsh := shl7_tab n (by omega)
  have hp := p2n_tab n (by omega)
  have hb := mkL_b (digs n n c) 0 (fun j hj => by rw [digs_len] at hj; have := digs_b hn0 n c j hj; omega) (by omega) (by omega)
  have hQ' := hQ A' q1 q3
  clear hQ
  generalize mkL 0 (digs n n c) = M at *
  by_cases z : M = 2 ^ n - 1
  · rw [if_pos z] at hQ'
    rw [z]
    simp (disch := first | assumption | omega | exact isB_z | exact isB_o | exact iI_in' (by assumption) (by omega) (by omega) | exact cat_int _ | exact cat_ref _ | exact cat_null | decide) only [↓x_118_50, ↓x_118_51, ↓x_118_52, ↓x_118_53, ↓x_118_54, ↓x_118_55, ↓x_118_56, ↓x_118_59, ↓x_118_60, ↓x_118_63, ↓x_118_64, up1_same, up1_ne, up1_up1, us_0, us_1, us_2, us_3, us_4, us_5, us_6, us_7, us_8, us_9, us_10, us_11, rw_zero, rw_succ, Option.toList_some, Option.toList_none, List.cons_append, List.nil_append, cat_int, cat_ref, cat_null, iI_add, iI_sub, iI_mul, iI_neg, List.length_cons, List.length_nil, ↓reduceIte, va_rf_some, Int.reduceToNat, md_0, md_1, md_2, md_3, md_4, md_5, md_6, md_7, md_8, md_9, md_10, md_11, md_12, md_13, md_14, md_15, md_16, md_17, md_18, md_19, md_20, md_21, md_22, md_23, md_24, md_25, md_26, md_27, md_28, md_29, md_30, md_31, mu_0, mu_3, mu_7, mu_9, mu_12, mu_13, mu_14, mu_15, mu_16, mu_17, mu_18, mu_23, mu_24, mu_26, mu_27, mu_28, mu_29, i10, iI_eq, iI_lt, iI_cl, if_true, if_false, and_self, hsh]
    exact hQ'
  · rw [if_neg z] at hQ'
    simp (disch := first | assumption | omega | exact isB_z | exact isB_o | exact iI_in' (by assumption) (by omega) (by omega) | exact cat_int _ | exact cat_ref _ | exact cat_null | decide) only [↓x_118_50, ↓x_118_51, ↓x_118_52, ↓x_118_53, ↓x_118_54, ↓x_118_55, ↓x_118_56, ↓x_118_59, ↓x_118_60, ↓x_118_63, ↓x_118_64, up1_same, up1_ne, up1_up1, us_0, us_1, us_2, us_3, us_4, us_5, us_6, us_7, us_8, us_9, us_10, us_11, rw_zero, rw_succ, Option.toList_some, Option.toList_none, List.cons_append, List.nil_append, cat_int, cat_ref, cat_null, iI_add, iI_sub, iI_mul, iI_neg, List.length_cons, List.length_nil, ↓reduceIte, va_rf_some, Int.reduceToNat, md_0, md_1, md_2, md_3, md_4, md_5, md_6, md_7, md_8, md_9, md_10, md_11, md_12, md_13, md_14, md_15, md_16, md_17, md_18, md_19, md_20, md_21, md_22, md_23, md_24, md_25, md_26, md_27, md_28, md_29, md_30, md_31, mu_0, mu_3, mu_7, mu_9, mu_12, mu_13, mu_14, mu_15, mu_16, mu_17, mu_18, mu_23, mu_24, mu_26, mu_27, mu_28, mu_29, i10, iI_eq, iI_lt, iI_cl, if_true, if_false, and_self, hsh, z]
    exact hQ'
end
