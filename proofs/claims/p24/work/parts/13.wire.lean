/-! WIRE -/
abbrev wiR (w : Nat) (n s o l : Int) : Nat → Value := rw' [.ref (w + 1), .ref (w + 2), .ref (w + 3), .int (iI n), .int (iI s), .int (iI o), .int (iI l)]
/-- what was sent (kinds), and the words as they are -/
abbrev aW : Type := List Int × List Int
def smF (s : Int) : List Int → Int
  | [] => s
  | k :: l => smF (sB (fD k s) s) l
def sm (ks : List Int) : Int := smF (-1) ks
def snF (s : Int) : List Int → List Int
  | [] => []
  | k :: l => fD k s :: snF (sB (fD k s) s) l
def snt (ks : List Int) : List Int := snF (-1) ks
def rcF (r : Int × Int) : List Int → Int × Int
  | [] => r
  | k :: l => rcF (if 31 ≤ k ∧ k - 31 ≠ r.2 then (r.2, k - 31) else r) l
def rc (ks : List Int) : Int × Int := rcF (-9, -9) ks
def wf (X : aW) : Prop := X.1.length ≤ 32 ∧ X.2.length = X.1.length ∧ (∀ i : Nat, i < X.1.length → 0 ≤ X.1.getD i 0 ∧ X.1.getD i 0 < 34) ∧ ∀ i : Nat, i < X.1.length → 0 ≤ X.2.getD i 0 ∧ X.2.getD i 0 < 64
/-- an object Wire and its three rows -/
def wiK (t : mL) (w : Nat) : Prop := kd t w = 3 ∧ kd t (w + 1) = 6 ∧ kd t (w + 2) = 6 ∧ kd t (w + 3) = 6 ∧ ln t (w + 1) = 32 ∧ ln t (w + 2) = 32 ∧ ln t (w + 3) = 32
def wiH (V : Nat → Nat → Value) (A : Nat → Nat → Int32) (w : Nat) (X : aW) : Prop := V w = wiR w X.1.length (sm X.1) (rc X.1).1 (rc X.1).2 ∧ (∀ i : Nat, i < X.1.length → A (w + 1) i = iI (X.1.getD i 0)) ∧ (∀ i : Nat, i < X.1.length → A (w + 2) i = iI ((snt X.1).getD i 0)) ∧ ∀ i : Nat, i < X.1.length → A (w + 3) i = iI (X.2.getD i 0)
/-- bit b of a row of words -/
def btA (l : List Int) (b : Int) : Int := l.getD (b / 6).toNat 0 / 2 ^ (5 - b % 6).toNat % 2
theorem smF_b : ∀ (l : List Int) (s : Int), (s = -1 ∨ s = 1) → smF s l = -1 ∨ smF s l = 1 := by
  intro l
  induction l with
  | nil => intro s h; exact h
  | cons k l ih => intro s h; exact ih _ (sB_b _ h)
theorem sm_b (ks : List Int) : sm ks = -1 ∨ sm ks = 1 := smF_b ks _ (Or.inl rfl)
theorem smF_app (l : List Int) : ∀ (s k : Int), smF s (l ++ [k]) = sB (fD k (smF s l)) (smF s l) := by
  induction l with
  | nil => intro s k; rfl
  | cons a l ih => intro s k; exact ih _ k
theorem sm_app (l : List Int) (k : Int) : sm (l ++ [k]) = sB (fD k (sm l)) (sm l) := smF_app l _ k
theorem snF_app (l : List Int) : ∀ (s k : Int), snF s (l ++ [k]) = snF s l ++ [fD k (smF s l)] := by
  induction l with
  | nil => intro s k; rfl
  | cons a l ih => intro s k; simp only [List.cons_append, snF, smF, ih]
theorem snt_app (l : List Int) (k : Int) : snt (l ++ [k]) = snt l ++ [fD k (sm l)] := snF_app l _ k
theorem snF_len (l : List Int) : ∀ s : Int, (snF s l).length = l.length := by
  induction l with
  | nil => intro s; rfl
  | cons a l ih => intro s; simp only [snF, List.length_cons, ih]
theorem snt_len (l : List Int) : (snt l).length = l.length := snF_len l _
theorem rcF_app (l : List Int) : ∀ (r : Int × Int) (k : Int), rcF r (l ++ [k]) = (if 31 ≤ k ∧ k - 31 ≠ (rcF r l).2 then ((rcF r l).2, k - 31) else rcF r l) := by
  induction l with
  | nil => intro r k; rfl
  | cons a l ih => intro r k; exact ih _ k
theorem rc_app (l : List Int) (k : Int) : rc (l ++ [k]) = (if 31 ≤ k ∧ k - 31 ≠ (rc l).2 then ((rc l).2, k - 31) else rc l) := rcF_app l _ k
theorem getD_app_lt {l : List Int} {k : Int} {i : Nat} (h : i < l.length) : (l ++ [k]).getD i 0 = l.getD i 0 := by
  simp only [List.getD_eq_getElem?_getD, List.getElem?_append_left h]
theorem getD_app_eq (l : List Int) (k : Int) : (l ++ [k]).getD l.length 0 = k := by
  simp [List.getD_eq_getElem?_getD]
theorem iI_div {a c : Int} (h0 : 0 ≤ a) (h1 : a < 2147483648) (h2 : 0 < c) (h3 : c < 2147483648) : iI a / iI c = iI (a / c) := by
  have := pk_div (a := a.toNat) (d := c.toNat) (by omega) (by omega) (by omega)
  have e1 : nI a.toNat = iI a := by show Int32.ofInt (a.toNat : Int) = _; rw [Int.toNat_of_nonneg h0]; rfl
  have e2 : nI c.toNat = iI c := by show Int32.ofInt (c.toNat : Int) = _; rw [Int.toNat_of_nonneg (by omega)]; rfl
  have e3 : nI (a.toNat / c.toNat) = iI (a / c) := by
    show Int32.ofInt ((a.toNat / c.toNat : Nat) : Int) = _
    rw [Int.natCast_ediv, Int.toNat_of_nonneg h0, Int.toNat_of_nonneg (by omega)]
    rfl
  rw [← e1, ← e2, this, e3]
theorem iI_n0 {c : Int} (h2 : 0 < c) (h3 : c < 2147483648) : ¬ iI c = 0 := by
  rw [← iI0, iI_eq (by omega) (by omega) (by omega) (by omega)]
  omega
theorem place_tab : ∀ b : Nat, b < 192 → iI 1 <<< (iI (5 - (b - b / 6 * 6)) &&& 31) = iI (2 ^ (5 - (b : Int) % 6).toNat) := by decide +kernel
theorem and_tab : ∀ j : Nat, j < 6 → ∀ n : Nat, n < 64 → ((iI n &&& iI (2 ^ j)) = iI (n / 2 ^ j % 2 * 2 ^ j)) ∧ ((iI n ^^^ iI (2 ^ j)) = iI (if (n : Int) / 2 ^ j % 2 = 1 then n - 2 ^ j else n + 2 ^ j)) := by decide +kernel
theorem and_6 {n : Int} {j : Nat} (h0 : 0 ≤ n) (h1 : n < 64) (j1 : j < 6) : iI n &&& iI (2 ^ j) = iI (n / 2 ^ j % 2 * 2 ^ j) := by
  have := (and_tab j j1 n.toNat (by omega)).1
  rwa [Int.toNat_of_nonneg h0] at this
theorem p2_tab : ∀ j : Nat, j < 6 → 1 ≤ (2 : Int) ^ j ∧ (2 : Int) ^ j ≤ 32 := by decide +kernel
/-- a bit turned -/
def tn (n : Int) (j : Nat) : Int := if n / 2 ^ j % 2 = 1 then n - 2 ^ j else n + 2 ^ j
theorem xor_6 {n : Int} {j : Nat} (h0 : 0 ≤ n) (h1 : n < 64) (j1 : j < 6) : iI n ^^^ iI (2 ^ j) = iI (tn n j) := by
  have := (and_tab j j1 n.toNat (by omega)).2
  rwa [Int.toNat_of_nonneg h0] at this
section
variable {d : Nat} {t : mL} {V : Nat → Nat → Value} {A : Nat → Nat → Int32} {P : Nat → Nat → Option Nat} {μ : mM} {Q : Option Value → mM → Prop}
theorem k_bits {w : Nat} {n s o l : Int} (hk : kd t w = 3) (hw : V w = wiR w n s o l) : Call (d + 1) 32 [.ref w] (t, V, A, P) Q = Q (some (.int (iI (n * 6)))) (t, V, A, P) := by
  simp (disch := first | assumption | omega | exact isB_z | exact isB_o | exact iI_in' (by assumption) (by omega) (by omega) | exact cat_int _ | exact cat_ref _ | exact cat_null | decide) only [c_32, ↓x_32_0, ↓x_32_1, ↓x_32_4, ↓x_32_6, ↓x_32_7, up1_same, up1_ne, up1_up1, us_0, us_1, us_2, us_3, us_4, us_5, us_6, us_7, us_8, us_9, us_10, us_11, rw_zero, rw_succ, Option.toList_some, Option.toList_none, List.cons_append, List.nil_append, cat_int, cat_ref, cat_null, iI_add, iI_sub, iI_mul, iI_neg, List.length_cons, List.length_nil, ↓reduceIte, va_rf_some, wiR, hw]
theorem k_hasBit {w : Nat} {n s o l z : Int} (hk : kd t w = 3) (hw : V w = wiR w n s o l) (hn : 0 ≤ n ∧ n ≤ 32) (h1 : -2147483648 ≤ z) (h2 : z < 2147483648) : Call (d + 2) 33 [.ref w, .int (iI z)] (t, V, A, P) Q = Q (some (.int (iI (if 0 ≤ z ∧ z < n * 6 then 1 else 0)))) (t, V, A, P) := by
  simp (disch := first | assumption | omega | exact isB_z | exact isB_o | exact iI_in' (by assumption) (by omega) (by omega) | exact cat_int _ | exact cat_ref _ | exact cat_null | decide) only [c_33, ↓x_33_0, ↓x_33_1, ↓x_33_4, ↓x_33_5, ↓x_33_6, ↓x_33_9, ↓x_33_12, ↓x_33_13, ↓x_33_16, ↓x_33_19, ↓x_33_20, ↓x_33_23, ↓x_33_24, up1_same, up1_ne, up1_up1, us_0, us_1, us_2, us_3, us_4, us_5, us_6, us_7, us_8, us_9, us_10, us_11, rw_zero, rw_succ, Option.toList_some, Option.toList_none, List.cons_append, List.nil_append, cat_int, cat_ref, cat_null, iI_add, iI_sub, iI_mul, iI_neg, List.length_cons, List.length_nil, ↓reduceIte, va_rf_some, wiR, hw, k_bits hk hw, iI_lt]
  by_cases a : z < 0
  · simp [a, show ¬ 0 ≤ z by omega]
  · by_cases b : z < n * 6
    · simp [a, b, show 0 ≤ z by omega, show z < 192 by omega]
    · simp [a, b]
theorem k_placeOf {b : Int} (h0 : 0 ≤ b) (h1 : b < 192) : Call (d + 1) 36 [.int (iI b)] μ Q = Q (some (.int (iI (2 ^ (5 - b % 6).toNat)))) μ := by
  have e := bdd (P := fun b => iI 1 <<< (iI (5 - (b - b / 6 * 6)) &&& 31) = iI (2 ^ (5 - b % 6).toNat)) place_tab h0 h1
  simp (disch := first | assumption | omega | exact isB_z | exact isB_o | exact iI_in' (by assumption) (by omega) (by omega) | exact cat_int _ | exact cat_ref _ | exact cat_null | decide) only [c_36, ↓x_36_0, ↓x_36_1, ↓x_36_2, ↓x_36_3, ↓x_36_5, ↓x_36_6, ↓x_36_7, ↓x_36_8, up1_same, up1_ne, up1_up1, us_0, us_1, us_2, us_3, us_4, us_5, us_6, us_7, us_8, us_9, us_10, us_11, rw_zero, rw_succ, Option.toList_some, Option.toList_none, List.cons_append, List.nil_append, cat_int, cat_ref, cat_null, iI_add, iI_sub, iI_mul, iI_neg, List.length_cons, List.length_nil, ↓reduceIte, va_rf_some, wiR, iI_n0, iI_div, e]
theorem k_bitAt {w : Nat} {X : aW} {b : Int} (hK : wiK t w) (hw : wiH V A w X) (hX : wf X) (h0 : 0 ≤ b) (h1 : b < X.1.length * 6) : Call (d + 3) 34 [.ref w, .int (iI b)] (t, V, A, P) Q = Q (some (.int (iI (btA X.2 b)))) (t, V, A, P) := by
  obtain ⟨k1, k2, k3, k4, k5, k6, k7⟩ := hK
  obtain ⟨w1, w2, w3, w4⟩ := hw
  obtain ⟨x1, x2, x3, x4⟩ := hX
  have hi : (b / 6).toNat < X.1.length := by omega
  have hv := x4 _ hi
  have hj : (5 - b % 6).toNat < 6 := by omega
  have hb2 : 0 ≤ b ∧ b < X.1.length * 6 := ⟨h0, h1⟩
  simp (disch := first | assumption | omega | exact isB_z | exact isB_o | exact iI_in' (by assumption) (by omega) (by omega) | exact cat_int _ | exact cat_ref _ | exact cat_null | decide) only [c_34, ↓x_34_0, ↓x_34_1, ↓x_34_2, ↓x_34_5, ↓x_34_8, ↓x_34_9, ↓x_34_10, ↓x_34_11, ↓x_34_14, ↓x_34_15, ↓x_34_17, ↓x_34_18, ↓x_34_19, ↓x_34_20, ↓x_34_23, ↓x_34_24, ↓x_34_27, ↓x_34_28, ↓x_34_31, ↓x_34_32, up1_same, up1_ne, up1_up1, us_0, us_1, us_2, us_3, us_4, us_5, us_6, us_7, us_8, us_9, us_10, us_11, rw_zero, rw_succ, Option.toList_some, Option.toList_none, List.cons_append, List.nil_append, cat_int, cat_ref, cat_null, iI_add, iI_sub, iI_mul, iI_neg, List.length_cons, List.length_nil, ↓reduceIte, va_rf_some, wiR, w1, k_hasBit k1 w1 (by omega), hb2, if_true, and_self, iI_eq, iI_n0, iI_div, iI_cl, w4, k_placeOf, and_6]
  simp only [btA]
  generalize X.2.getD (b / 6).toNat 0 / 2 ^ (5 - b % 6).toNat = z
  have hz : z % 2 = 0 ∨ z % 2 = 1 := by omega
  have hp := p2_tab _ hj
  rcases hz with hz | hz <;> rw [hz]
  · simp
  · rw [if_neg (show ¬ (1 : Int) = 0 by omega), if_neg (by rw [iI_eq (by omega) (by omega) (by omega) (by omega)]; omega)]
theorem k_turn {w : Nat} {X : aW} {b : Int} (hK : wiK t w) (hw : wiH V A w X) (hX : wf X) (h0 : 0 ≤ b) (h1 : b < X.1.length * 6) : Call (d + 3) 35 [.ref w, .int (iI b)] (t, V, A, P) Q = Q none (t, V, up1 A (w + 3) (upd (A (w + 3)) (b / 6).toNat (iI (tn (X.2.getD (b / 6).toNat 0) (5 - b % 6).toNat))), P) := by
  obtain ⟨k1, k2, k3, k4, k5, k6, k7⟩ := hK
  obtain ⟨w1, w2, w3, w4⟩ := hw
  obtain ⟨x1, x2, x3, x4⟩ := hX
  have hi : (b / 6).toNat < X.1.length := by omega
  have hv := x4 _ hi
  have hj : (5 - b % 6).toNat < 6 := by omega
  have hb2 : 0 ≤ b ∧ b < X.1.length * 6 := ⟨h0, h1⟩
  simp (disch := first | assumption | omega | exact isB_z | exact isB_o | exact iI_in' (by assumption) (by omega) (by omega) | exact cat_int _ | exact cat_ref _ | exact cat_null | decide) only [c_35, ↓x_35_0, ↓x_35_1, ↓x_35_2, ↓x_35_5, ↓x_35_8, ↓x_35_9, ↓x_35_12, ↓x_35_13, ↓x_35_15, ↓x_35_16, ↓x_35_17, ↓x_35_18, ↓x_35_19, ↓x_35_22, ↓x_35_23, ↓x_35_24, up1_same, up1_ne, up1_up1, us_0, us_1, us_2, us_3, us_4, us_5, us_6, us_7, us_8, us_9, us_10, us_11, rw_zero, rw_succ, Option.toList_some, Option.toList_none, List.cons_append, List.nil_append, cat_int, cat_ref, cat_null, iI_add, iI_sub, iI_mul, iI_neg, List.length_cons, List.length_nil, ↓reduceIte, va_rf_some, wiR, w1, k_hasBit k1 w1 (by omega), hb2, if_true, and_self, iI_eq, iI_n0, iI_div, iI_cl, w4, k_placeOf, xor_6]
  rw [if_neg (show ¬ (1 : Int) = 0 by omega)]
theorem k_empty {w : Nat} {n s o l : Int} (hk : kd t w = 3) (hw : V w = wiR w n s o l) : Call (d + 1) 27 [.ref w] (t, V, A, P) Q = Q none (t, up1 V w (wiR w 0 (-1) (-9) (-9)), A, P) := by
  simp (disch := first | assumption | omega | exact isB_z | exact isB_o | exact iI_in' (by assumption) (by omega) (by omega) | exact cat_int _ | exact cat_ref _ | exact cat_null | decide) only [c_27, ↓x_27_0, ↓x_27_1, ↓x_27_2, ↓x_27_5, ↓x_27_6, ↓x_27_7, ↓x_27_10, ↓x_27_11, ↓x_27_13, ↓x_27_16, ↓x_27_17, ↓x_27_19, ↓x_27_22, up1_same, up1_ne, up1_up1, us_0, us_1, us_2, us_3, us_4, us_5, us_6, us_7, us_8, us_9, us_10, us_11, rw_zero, rw_succ, Option.toList_some, Option.toList_none, List.cons_append, List.nil_append, cat_int, cat_ref, cat_null, iI_add, iI_sub, iI_mul, iI_neg, List.length_cons, List.length_nil, ↓reduceIte, va_rf_some, wiR, hw]
/-- a sum of m, from k on -/
def sumI (f : Int → Int) (k : Int) : Nat → Int
  | 0 => 0
  | m + 1 => f k + sumI f (k + 1) m
theorem ones_loop {w : Nat} {X : aW} (hK : wiK t w) (hw : wiH V A w X) (hX : wf X) : ∀ (m : Nat) (k acc : Int), 0 ≤ k → k + m = X.1.length → Ev (d + 1) 37 4 [.ref w, .int (iI acc), .int (iI k)] [] (t, V, A, P) Q = Q (some (.int (iI (acc + sumI (fun i => pcI (X.2.getD i.toNat 0)) k m)))) (t, V, A, P) := by
  obtain ⟨k1, k2, k3, k4, k5, k6, k7⟩ := hK
  obtain ⟨w1, w2, w3, w4⟩ := hw
  obtain ⟨x1, x2, x3, x4⟩ := hX
  intro m
  induction m with
  | zero =>
    intro k acc h0 h1
    rw [x_37_4]
    simp (disch := first | assumption | omega | exact isB_z | exact isB_o | exact iI_in' (by assumption) (by omega) (by omega) | exact cat_int _ | exact cat_ref _ | exact cat_null | decide) only [↓x_37_0, ↓x_37_1, ↓x_37_2, ↓x_37_3, ↓x_37_5, ↓x_37_6, ↓x_37_9, ↓x_37_12, ↓x_37_13, ↓x_37_15, ↓x_37_18, ↓x_37_19, ↓x_37_20, ↓x_37_23, ↓x_37_24, ↓x_37_25, ↓x_37_28, ↓x_37_29, ↓x_37_30, ↓x_37_33, ↓x_37_36, ↓x_37_37, up1_same, up1_ne, up1_up1, us_0, us_1, us_2, us_3, us_4, us_5, us_6, us_7, us_8, us_9, us_10, us_11, rw_zero, rw_succ, Option.toList_some, Option.toList_none, List.cons_append, List.nil_append, cat_int, cat_ref, cat_null, iI_add, iI_sub, iI_mul, iI_neg, List.length_cons, List.length_nil, ↓reduceIte, va_rf_some, wiR, w1, iI_lt]
    rw [if_neg (by omega)]
    simp only [sumI, Int.add_zero]
  | succ m ih =>
    intro k acc h0 h1
    rw [x_37_4]
    have e1 : k < X.1.length := by omega
    have e2 : k < 32 := by omega
    have hv := x4 k.toNat (by omega)
    simp (disch := first | assumption | omega | exact isB_z | exact isB_o | exact iI_in' (by assumption) (by omega) (by omega) | exact cat_int _ | exact cat_ref _ | exact cat_null | decide) only [↓x_37_0, ↓x_37_1, ↓x_37_2, ↓x_37_3, ↓x_37_5, ↓x_37_6, ↓x_37_9, ↓x_37_12, ↓x_37_13, ↓x_37_15, ↓x_37_18, ↓x_37_19, ↓x_37_20, ↓x_37_23, ↓x_37_24, ↓x_37_25, ↓x_37_28, ↓x_37_29, ↓x_37_30, ↓x_37_33, ↓x_37_36, ↓x_37_37, up1_same, up1_ne, up1_up1, us_0, us_1, us_2, us_3, us_4, us_5, us_6, us_7, us_8, us_9, us_10, us_11, rw_zero, rw_succ, Option.toList_some, Option.toList_none, List.cons_append, List.nil_append, cat_int, cat_ref, cat_null, iI_add, iI_sub, iI_mul, iI_neg, List.length_cons, List.length_nil, ↓reduceIte, va_rf_some, wiR, w1, iI_lt, e1, e2, if_true, iI_cl, w4, k_bitc]
    rw [ih (k + 1) _ (by omega) (by omega)]
    simp only [sumI, Int.add_assoc]
theorem k_ones {w : Nat} {X : aW} (hK : wiK t w) (hw : wiH V A w X) (hX : wf X) : Call (d + 2) 37 [.ref w] (t, V, A, P) Q = Q (some (.int (iI (sumI (fun i => pcI (X.2.getD i.toNat 0)) 0 X.1.length)))) (t, V, A, P) := by
  simp (disch := first | assumption | omega | exact isB_z | exact isB_o | exact iI_in' (by assumption) (by omega) (by omega) | exact cat_int _ | exact cat_ref _ | exact cat_null | decide) only [c_37, ↓x_37_0, ↓x_37_1, ↓x_37_2, ↓x_37_3, ↓x_37_5, ↓x_37_6, ↓x_37_9, ↓x_37_12, ↓x_37_13, ↓x_37_15, ↓x_37_18, ↓x_37_19, ↓x_37_20, ↓x_37_23, ↓x_37_24, ↓x_37_25, ↓x_37_28, ↓x_37_29, ↓x_37_30, ↓x_37_33, ↓x_37_36, ↓x_37_37, up1_same, up1_ne, up1_up1, us_0, us_1, us_2, us_3, us_4, us_5, us_6, us_7, us_8, us_9, us_10, us_11, rw_zero, rw_succ, Option.toList_some, Option.toList_none, List.cons_append, List.nil_append, cat_int, cat_ref, cat_null, iI_add, iI_sub, iI_mul, iI_neg, List.length_cons, List.length_nil, ↓reduceIte, va_rf_some, wiR]
  rw [ones_loop hK hw hX X.1.length 0 0 (by omega) (by omega), Int.zero_add]
theorem xor_tab : ∀ a : Nat, a < 64 → ∀ b : Nat, b < 64 → iI a ^^^ iI b = iI ((a ^^^ b : Nat) : Int) ∧ a ^^^ b < 64 := fun a ha b hb => ⟨iI_xor a b, Nat.xor_lt_two_pow (n := 6) ha hb⟩
/-- in how many bits two numbers differ -/
def dfI (a b : Int) : Int := pcI ((a.toNat ^^^ b.toNat : Nat) : Int)
theorem snF_b : ∀ (l : List Int) (s : Int), (∀ i : Nat, i < l.length → 0 ≤ l.getD i 0 ∧ l.getD i 0 < 34) → ∀ i : Nat, i < l.length → 0 ≤ (snF s l).getD i 0 ∧ (snF s l).getD i 0 < 64 := by
  intro l
  induction l with
  | nil => intro s h i hi; simp at hi
  | cons k l ih =>
    intro s h i hi
    have hk := h 0 (by simp)
    simp at hk
    cases i with
    | zero => simpa [snF] using fD_b s hk.1 hk.2
    | succ i =>
      have := ih (sB (fD k s) s) (fun j hj => by simpa using h (j + 1) (by simp; omega)) i (by simpa using hi)
      simpa [snF] using this
theorem snt_b {X : aW} (hX : wf X) (i : Nat) (hi : i < X.1.length) : 0 ≤ (snt X.1).getD i 0 ∧ (snt X.1).getD i 0 < 64 := snF_b _ _ hX.2.2.1 i hi
theorem turned_loop {w : Nat} {X : aW} (hK : wiK t w) (hw : wiH V A w X) (hX : wf X) : ∀ (m : Nat) (k acc : Int), 0 ≤ k → k + m = X.1.length → Ev (d + 1) 38 4 [.ref w, .int (iI acc), .int (iI k)] [] (t, V, A, P) Q = Q (some (.int (iI (acc + sumI (fun i => dfI (X.2.getD i.toNat 0) ((snt X.1).getD i.toNat 0)) k m)))) (t, V, A, P) := by
  have hsn := snt_b hX
  obtain ⟨k1, k2, k3, k4, k5, k6, k7⟩ := hK
  obtain ⟨w1, w2, w3, w4⟩ := hw
  obtain ⟨x1, x2, x3, x4⟩ := hX
  intro m
  induction m with
  | zero =>
    intro k acc h0 h1
    rw [x_38_4]
    simp (disch := first | assumption | omega | exact isB_z | exact isB_o | exact iI_in' (by assumption) (by omega) (by omega) | exact cat_int _ | exact cat_ref _ | exact cat_null | decide) only [↓x_38_0, ↓x_38_1, ↓x_38_2, ↓x_38_3, ↓x_38_5, ↓x_38_6, ↓x_38_9, ↓x_38_12, ↓x_38_13, ↓x_38_15, ↓x_38_18, ↓x_38_19, ↓x_38_20, ↓x_38_23, ↓x_38_24, ↓x_38_25, ↓x_38_26, ↓x_38_29, ↓x_38_30, ↓x_38_31, ↓x_38_32, ↓x_38_35, ↓x_38_36, ↓x_38_37, ↓x_38_40, ↓x_38_43, ↓x_38_44, up1_same, up1_ne, up1_up1, us_0, us_1, us_2, us_3, us_4, us_5, us_6, us_7, us_8, us_9, us_10, us_11, rw_zero, rw_succ, Option.toList_some, Option.toList_none, List.cons_append, List.nil_append, cat_int, cat_ref, cat_null, iI_add, iI_sub, iI_mul, iI_neg, List.length_cons, List.length_nil, ↓reduceIte, va_rf_some, wiR, w1, iI_lt]
    rw [if_neg (by omega)]
    simp only [sumI, Int.add_zero]
  | succ m ih =>
    intro k acc h0 h1
    rw [x_38_4]
    have e1 : k < X.1.length := by omega
    have e2 : k < 32 := by omega
    have hv := x4 k.toNat (by omega)
    have hs := hsn k.toNat (by omega)
    have hq := xor_tab (X.2.getD k.toNat 0).toNat (by omega) ((snt X.1).getD k.toNat 0).toNat (by omega)
    rw [Int.toNat_of_nonneg hv.1, Int.toNat_of_nonneg hs.1] at hq
    simp (disch := first | assumption | omega | exact isB_z | exact isB_o | exact iI_in' (by assumption) (by omega) (by omega) | exact cat_int _ | exact cat_ref _ | exact cat_null | decide) only [↓x_38_0, ↓x_38_1, ↓x_38_2, ↓x_38_3, ↓x_38_5, ↓x_38_6, ↓x_38_9, ↓x_38_12, ↓x_38_13, ↓x_38_15, ↓x_38_18, ↓x_38_19, ↓x_38_20, ↓x_38_23, ↓x_38_24, ↓x_38_25, ↓x_38_26, ↓x_38_29, ↓x_38_30, ↓x_38_31, ↓x_38_32, ↓x_38_35, ↓x_38_36, ↓x_38_37, ↓x_38_40, ↓x_38_43, ↓x_38_44, up1_same, up1_ne, up1_up1, us_0, us_1, us_2, us_3, us_4, us_5, us_6, us_7, us_8, us_9, us_10, us_11, rw_zero, rw_succ, Option.toList_some, Option.toList_none, List.cons_append, List.nil_append, cat_int, cat_ref, cat_null, iI_add, iI_sub, iI_mul, iI_neg, List.length_cons, List.length_nil, ↓reduceIte, va_rf_some, wiR, w1, iI_lt, e1, e2, if_true, iI_cl, w4, w3, hq.1, k_bitc]
    rw [ih (k + 1) _ (by omega) (by omega)]
    simp only [sumI, Int.add_assoc, dfI]
theorem k_turned {w : Nat} {X : aW} (hK : wiK t w) (hw : wiH V A w X) (hX : wf X) : Call (d + 2) 38 [.ref w] (t, V, A, P) Q = Q (some (.int (iI (sumI (fun i => dfI (X.2.getD i.toNat 0) ((snt X.1).getD i.toNat 0)) 0 X.1.length)))) (t, V, A, P) := by
  simp (disch := first | assumption | omega | exact isB_z | exact isB_o | exact iI_in' (by assumption) (by omega) (by omega) | exact cat_int _ | exact cat_ref _ | exact cat_null | decide) only [c_38, ↓x_38_0, ↓x_38_1, ↓x_38_2, ↓x_38_3, ↓x_38_5, ↓x_38_6, ↓x_38_9, ↓x_38_12, ↓x_38_13, ↓x_38_15, ↓x_38_18, ↓x_38_19, ↓x_38_20, ↓x_38_23, ↓x_38_24, ↓x_38_25, ↓x_38_26, ↓x_38_29, ↓x_38_30, ↓x_38_31, ↓x_38_32, ↓x_38_35, ↓x_38_36, ↓x_38_37, ↓x_38_40, ↓x_38_43, ↓x_38_44, up1_same, up1_ne, up1_up1, us_0, us_1, us_2, us_3, us_4, us_5, us_6, us_7, us_8, us_9, us_10, us_11, rw_zero, rw_succ, Option.toList_some, Option.toList_none, List.cons_append, List.nil_append, cat_int, cat_ref, cat_null, iI_add, iI_sub, iI_mul, iI_neg, List.length_cons, List.length_nil, ↓reduceIte, va_rf_some, wiR]
  rw [turned_loop hK hw hX X.1.length 0 0 (by omega) (by omega), Int.zero_add]
theorem marksSent_loop {w : Nat} {X : aW} (hK : wiK t w) (hw : wiH V A w X) (hX : wf X) : ∀ (m : Nat) (k acc : Int), 0 ≤ k → k + m = X.1.length → Ev (d + 1) 39 4 [.ref w, .int (iI acc), .int (iI k)] [] (t, V, A, P) Q = Q (some (.int (iI (acc + sumI (fun i => if 31 ≤ X.1.getD i.toNat 0 then 1 else 0) k m)))) (t, V, A, P) := by
  obtain ⟨k1, k2, k3, k4, k5, k6, k7⟩ := hK
  obtain ⟨w1, w2, w3, w4⟩ := hw
  obtain ⟨x1, x2, x3, x4⟩ := hX
  intro m
  induction m with
  | zero =>
    intro k acc h0 h1
    rw [x_39_4]
    simp (disch := first | assumption | omega | exact isB_z | exact isB_o | exact iI_in' (by assumption) (by omega) (by omega) | exact cat_int _ | exact cat_ref _ | exact cat_null | decide) only [↓x_39_0, ↓x_39_1, ↓x_39_2, ↓x_39_3, ↓x_39_5, ↓x_39_6, ↓x_39_9, ↓x_39_12, ↓x_39_13, ↓x_39_15, ↓x_39_18, ↓x_39_19, ↓x_39_22, ↓x_39_23, ↓x_39_24, ↓x_39_26, ↓x_39_29, ↓x_39_32, ↓x_39_35, ↓x_39_38, ↓x_39_39, up1_same, up1_ne, up1_up1, us_0, us_1, us_2, us_3, us_4, us_5, us_6, us_7, us_8, us_9, us_10, us_11, rw_zero, rw_succ, Option.toList_some, Option.toList_none, List.cons_append, List.nil_append, cat_int, cat_ref, cat_null, iI_add, iI_sub, iI_mul, iI_neg, List.length_cons, List.length_nil, ↓reduceIte, va_rf_some, wiR, w1, iI_lt]
    rw [if_neg (by omega)]
    simp only [sumI, Int.add_zero]
  | succ m ih =>
    intro k acc h0 h1
    rw [x_39_4]
    have e1 : k < X.1.length := by omega
    have e2 : k < 32 := by omega
    have hv := x3 k.toNat (by omega)
    simp (disch := first | assumption | omega | exact isB_z | exact isB_o | exact iI_in' (by assumption) (by omega) (by omega) | exact cat_int _ | exact cat_ref _ | exact cat_null | decide) only [↓x_39_0, ↓x_39_1, ↓x_39_2, ↓x_39_3, ↓x_39_5, ↓x_39_6, ↓x_39_9, ↓x_39_12, ↓x_39_13, ↓x_39_15, ↓x_39_18, ↓x_39_19, ↓x_39_22, ↓x_39_23, ↓x_39_24, ↓x_39_26, ↓x_39_29, ↓x_39_32, ↓x_39_35, ↓x_39_38, ↓x_39_39, up1_same, up1_ne, up1_up1, us_0, us_1, us_2, us_3, us_4, us_5, us_6, us_7, us_8, us_9, us_10, us_11, rw_zero, rw_succ, Option.toList_some, Option.toList_none, List.cons_append, List.nil_append, cat_int, cat_ref, cat_null, iI_add, iI_sub, iI_mul, iI_neg, List.length_cons, List.length_nil, ↓reduceIte, va_rf_some, wiR, w1, iI_lt, e1, e2, if_true, iI_cl, w2]
    rw [ih (k + 1) _ (by omega) (by omega), ih (k + 1) _ (by omega) (by omega)]
    by_cases c : X.1.getD k.toNat 0 < 31
    · rw [if_pos c]
      simp only [sumI, if_neg (show ¬ 31 ≤ X.1.getD k.toNat 0 by omega), Int.zero_add]
    · rw [if_neg c]
      simp only [sumI, if_pos (show 31 ≤ X.1.getD k.toNat 0 by omega), Int.add_assoc]
theorem k_marksSent {w : Nat} {X : aW} (hK : wiK t w) (hw : wiH V A w X) (hX : wf X) : Call (d + 2) 39 [.ref w] (t, V, A, P) Q = Q (some (.int (iI (sumI (fun i => if 31 ≤ X.1.getD i.toNat 0 then 1 else 0) 0 X.1.length)))) (t, V, A, P) := by
  simp (disch := first | assumption | omega | exact isB_z | exact isB_o | exact iI_in' (by assumption) (by omega) (by omega) | exact cat_int _ | exact cat_ref _ | exact cat_null | decide) only [c_39, ↓x_39_0, ↓x_39_1, ↓x_39_2, ↓x_39_3, ↓x_39_5, ↓x_39_6, ↓x_39_9, ↓x_39_12, ↓x_39_13, ↓x_39_15, ↓x_39_18, ↓x_39_19, ↓x_39_22, ↓x_39_23, ↓x_39_24, ↓x_39_26, ↓x_39_29, ↓x_39_32, ↓x_39_35, ↓x_39_38, ↓x_39_39, up1_same, up1_ne, up1_up1, us_0, us_1, us_2, us_3, us_4, us_5, us_6, us_7, us_8, us_9, us_10, us_11, rw_zero, rw_succ, Option.toList_some, Option.toList_none, List.cons_append, List.nil_append, cat_int, cat_ref, cat_null, iI_add, iI_sub, iI_mul, iI_neg, List.length_cons, List.length_nil, ↓reduceIte, va_rf_some, wiR]
  rw [marksSent_loop hK hw hX X.1.length 0 0 (by omega) (by omega), Int.zero_add]
theorem rcF_b : ∀ (l : List Int) (r : Int × Int), (∀ i : Nat, i < l.length → 0 ≤ l.getD i 0 ∧ l.getD i 0 < 34) → (-9 ≤ r.1 ∧ r.1 ≤ 2 ∧ -9 ≤ r.2 ∧ r.2 ≤ 2) → -9 ≤ (rcF r l).1 ∧ (rcF r l).1 ≤ 2 ∧ -9 ≤ (rcF r l).2 ∧ (rcF r l).2 ≤ 2 := by
  intro l
  induction l with
  | nil => intro r _ h; exact h
  | cons k l ih =>
    intro r h hr
    have hk := h 0 (by simp)
    simp at hk
    refine ih _ (fun j hj => by simpa using h (j + 1) (by simp; omega)) ?_
    split
    · exact ⟨hr.2.2.1, hr.2.2.2, by omega, by omega⟩
    · exact hr
theorem rc_b {X : aW} (hX : wf X) : -9 ≤ (rc X.1).1 ∧ (rc X.1).1 ≤ 2 ∧ -9 ≤ (rc X.1).2 ∧ (rc X.1).2 ≤ 2 := rcF_b _ _ hX.2.2.1 ⟨by decide, by decide, by decide, by decide⟩
theorem up1_self {α : Type} (f : Nat → α) (a : Nat) : up1 f a (f a) = f := by
  funext b
  by_cases h : b = a
  · subst h; exact up1_same _ _ _
  · exact up1_ne h
theorem k_noteMark {w : Nat} {n s o l m : Int} (hk : kd t w = 3) (hw : V w = wiR w n s o l) (hl : -9 ≤ l ∧ l ≤ 2) (hm : 0 ≤ m ∧ m ≤ 2) : Call (d + 1) 30 [.ref w, .int (iI m)] (t, V, A, P) Q = Q none (t, up1 V w (if m = l then wiR w n s o l else wiR w n s l m), A, P) := by
  simp (disch := first | assumption | omega | exact isB_z | exact isB_o | exact iI_in' (by assumption) (by omega) (by omega) | exact cat_int _ | exact cat_ref _ | exact cat_null | decide) only [c_30, ↓x_30_0, ↓x_30_1, ↓x_30_2, ↓x_30_5, ↓x_30_8, ↓x_30_9, ↓x_30_10, ↓x_30_13, ↓x_30_16, ↓x_30_17, ↓x_30_18, ↓x_30_21, up1_same, up1_ne, up1_up1, us_0, us_1, us_2, us_3, us_4, us_5, us_6, us_7, us_8, us_9, us_10, us_11, rw_zero, rw_succ, Option.toList_some, Option.toList_none, List.cons_append, List.nil_append, cat_int, cat_ref, cat_null, iI_add, iI_sub, iI_mul, iI_neg, List.length_cons, List.length_nil, ↓reduceIte, va_rf_some, wiR, hw, iI_eq]
  by_cases h : m = l
  · simp only [h, if_true]
    have := up1_self V w
    rw [hw] at this
    rw [this]
  · simp only [h, if_false]
def sndA (A : Nat → Nat → Int32) (w n : Nat) (k v : Int) : Nat → Nat → Int32 := up1 (up1 (up1 A (w + 1) (upd (A (w + 1)) n (iI k))) (w + 2) (upd (A (w + 2)) n (iI v))) (w + 3) (upd (A (w + 3)) n (iI v))
/-- what is sent next -/
def sX (X : aW) (k : Int) : aW := (X.1 ++ [k], X.2 ++ [fD k (sm X.1)])
abbrev wiX (w : Nat) (X : aW) : Nat → Value := wiR w X.1.length (sm X.1) (rc X.1).1 (rc X.1).2
theorem k_send {w : Nat} {X : aW} {k : Int} (hT : tabs t A) (hK : wiK t w) (hw : wiH V A w X) (hX : wf X) (hn : X.1.length < 32) (h0 : 0 ≤ k) (h1 : k < 34) : Call (d + 4) 29 [.ref w, .int (iI k)] (t, V, A, P) Q = Q (some (.int (iI (fD k (sm X.1))))) (t, up1 V w (wiX w (sX X k)), sndA A w X.1.length k (fD k (sm X.1)), P) := by
  have hsm := sm_b X.1
  have hrc := rc_b hX
  have hfd := fD_b (sm X.1) h0 h1
  obtain ⟨k1, k2, k3, k4, k5, k6, k7⟩ := hK
  obtain ⟨w1, w2, w3, w4⟩ := hw
  have e1 : ¬ (X.1.length : Int) < 0 := by omega
  have e2 : (X.1.length : Int) < 32 := by omega
  have e3 : ((sX X k).1.length : Int) = X.1.length + 1 := by simp [sX]
  have e4 : sm (sX X k).1 = sB (fD k (sm X.1)) (sm X.1) := sm_app _ _
  have e5 : rc (sX X k).1 = (if 31 ≤ k ∧ k - 31 ≠ (rc X.1).2 then ((rc X.1).2, k - 31) else rc X.1) := rc_app _ _
  have fin : ((X.1.length : Int)).toNat = X.1.length := Int.toNat_natCast _
  simp (disch := first | assumption | omega | exact isB_z | exact isB_o | exact iI_in' (by assumption) (by omega) (by omega) | exact cat_int _ | exact cat_ref _ | exact cat_null | decide) only [c_29, ↓x_29_0, ↓x_29_1, ↓x_29_4, ↓x_29_7, ↓x_29_8, ↓x_29_11, ↓x_29_13, ↓x_29_16, ↓x_29_18, ↓x_29_19, ↓x_29_20, ↓x_29_21, ↓x_29_24, ↓x_29_27, ↓x_29_28, ↓x_29_29, ↓x_29_32, ↓x_29_33, ↓x_29_36, ↓x_29_37, ↓x_29_38, ↓x_29_39, ↓x_29_42, ↓x_29_43, ↓x_29_46, ↓x_29_47, ↓x_29_48, ↓x_29_49, ↓x_29_52, ↓x_29_53, ↓x_29_56, ↓x_29_57, ↓x_29_58, ↓x_29_59, ↓x_29_60, ↓x_29_63, ↓x_29_64, ↓x_29_65, ↓x_29_68, ↓x_29_69, ↓x_29_70, ↓x_29_71, ↓x_29_74, ↓x_29_77, ↓x_29_80, ↓x_29_81, ↓x_29_83, ↓x_29_94, ↓x_29_95, up1_same, up1_ne, up1_up1, us_0, us_1, us_2, us_3, us_4, us_5, us_6, us_7, us_8, us_9, us_10, us_11, rw_zero, rw_succ, Option.toList_some, Option.toList_none, List.cons_append, List.nil_append, cat_int, cat_ref, cat_null, iI_add, iI_sub, iI_mul, iI_neg, List.length_cons, List.length_nil, ↓reduceIte, va_rf_some, wiR, w1, iI_lt, e1, e2, if_true, if_false, k_formDue hT h0 h1 hsm, iI_cl, k_sumBehind, fin]
  by_cases c : k < 31
  · rw [if_pos c]
    rw [wiX, e3, e4, e5, if_neg (by omega)]
    rfl
  · rw [if_neg c]
    simp (disch := first | assumption | omega | exact isB_z | exact isB_o | exact iI_in' (by assumption) (by omega) (by omega) | exact cat_int _ | exact cat_ref _ | exact cat_null | decide) only [↓x_29_0, ↓x_29_1, ↓x_29_4, ↓x_29_7, ↓x_29_8, ↓x_29_11, ↓x_29_13, ↓x_29_16, ↓x_29_18, ↓x_29_19, ↓x_29_20, ↓x_29_21, ↓x_29_24, ↓x_29_27, ↓x_29_28, ↓x_29_29, ↓x_29_32, ↓x_29_33, ↓x_29_36, ↓x_29_37, ↓x_29_38, ↓x_29_39, ↓x_29_42, ↓x_29_43, ↓x_29_46, ↓x_29_47, ↓x_29_48, ↓x_29_49, ↓x_29_52, ↓x_29_53, ↓x_29_56, ↓x_29_57, ↓x_29_58, ↓x_29_59, ↓x_29_60, ↓x_29_63, ↓x_29_64, ↓x_29_65, ↓x_29_68, ↓x_29_69, ↓x_29_70, ↓x_29_71, ↓x_29_74, ↓x_29_77, ↓x_29_80, ↓x_29_81, ↓x_29_83, ↓x_29_86, ↓x_29_87, ↓x_29_88, ↓x_29_90, ↓x_29_91, ↓x_29_94, ↓x_29_95, up1_same, up1_ne, up1_up1, us_0, us_1, us_2, us_3, us_4, us_5, us_6, us_7, us_8, us_9, us_10, us_11, rw_zero, rw_succ, Option.toList_some, Option.toList_none, List.cons_append, List.nil_append, cat_int, cat_ref, cat_null, iI_add, iI_sub, iI_mul, iI_neg, List.length_cons, List.length_nil, ↓reduceIte, va_rf_some, wiR]
    rw [k_noteMark k1 (up1_same _ _ _) (by omega) (by omega)]
    simp (disch := first | assumption | omega | exact isB_z | exact isB_o | exact iI_in' (by assumption) (by omega) (by omega) | exact cat_int _ | exact cat_ref _ | exact cat_null | decide) only [↓x_29_0, ↓x_29_1, ↓x_29_4, ↓x_29_7, ↓x_29_8, ↓x_29_11, ↓x_29_13, ↓x_29_16, ↓x_29_18, ↓x_29_19, ↓x_29_20, ↓x_29_21, ↓x_29_24, ↓x_29_27, ↓x_29_28, ↓x_29_29, ↓x_29_32, ↓x_29_33, ↓x_29_36, ↓x_29_37, ↓x_29_38, ↓x_29_39, ↓x_29_42, ↓x_29_43, ↓x_29_46, ↓x_29_47, ↓x_29_48, ↓x_29_49, ↓x_29_52, ↓x_29_53, ↓x_29_56, ↓x_29_57, ↓x_29_58, ↓x_29_59, ↓x_29_60, ↓x_29_63, ↓x_29_64, ↓x_29_65, ↓x_29_68, ↓x_29_69, ↓x_29_70, ↓x_29_71, ↓x_29_74, ↓x_29_77, ↓x_29_80, ↓x_29_81, ↓x_29_83, ↓x_29_86, ↓x_29_87, ↓x_29_88, ↓x_29_90, ↓x_29_91, ↓x_29_94, ↓x_29_95, up1_same, up1_ne, up1_up1, us_0, us_1, us_2, us_3, us_4, us_5, us_6, us_7, us_8, us_9, us_10, us_11, rw_zero, rw_succ, Option.toList_some, Option.toList_none, List.cons_append, List.nil_append, cat_int, cat_ref, cat_null, iI_add, iI_sub, iI_mul, iI_neg, List.length_cons, List.length_nil, ↓reduceIte, va_rf_some, wiR]
    rw [wiX, e3, e4, e5]
    by_cases g : k - 31 = (rc X.1).2
    · rw [if_pos g, if_neg (by omega)]
      rfl
    · rw [if_neg g, if_pos (by omega)]
      rfl
theorem wiH_send {w : Nat} {X : aW} {k : Int} (hw : wiH V A w X) (hX : wf X) : wiH (up1 V w (wiX w (sX X k))) (sndA A w X.1.length k (fD k (sm X.1))) w (sX X k) := by
  obtain ⟨w1, w2, w3, w4⟩ := hw
  have hl : (sX X k).1.length = X.1.length + 1 := by simp [sX]
  refine ⟨up1_same _ _ _, fun i hi => ?_, fun i hi => ?_, fun i hi => ?_⟩
  · rw [hl] at hi
    simp (disch := first | assumption | omega | exact isB_z | exact isB_o | exact iI_in' (by assumption) (by omega) (by omega) | exact cat_int _ | exact cat_ref _ | exact cat_null | decide) only [sndA, up1_same, up1_ne]
    by_cases h : i = X.1.length
    · subst h
      rw [upd_same]
      exact congrArg iI (getD_app_eq _ _).symm
    · rw [upd_ne h, w2 i (by omega)]
      exact congrArg iI (getD_app_lt (by omega)).symm
  · rw [hl] at hi
    simp (disch := first | assumption | omega | exact isB_z | exact isB_o | exact iI_in' (by assumption) (by omega) (by omega) | exact cat_int _ | exact cat_ref _ | exact cat_null | decide) only [sndA, up1_same, up1_ne]
    have e : snt (sX X k).1 = snt X.1 ++ [fD k (sm X.1)] := snt_app _ _
    by_cases h : i = X.1.length
    · subst h
      rw [upd_same, e]
      have := getD_app_eq (snt X.1) (fD k (sm X.1))
      rw [snt_len] at this
      rw [this]
    · rw [upd_ne h, w3 i (by omega), e, getD_app_lt (by rw [snt_len]; omega)]
  · rw [hl] at hi
    simp (disch := first | assumption | omega | exact isB_z | exact isB_o | exact iI_in' (by assumption) (by omega) (by omega) | exact cat_int _ | exact cat_ref _ | exact cat_null | decide) only [sndA, up1_same, up1_ne]
    by_cases h : i = X.1.length
    · subst h
      rw [upd_same]
      have := getD_app_eq X.2 (fD k (sm X.1))
      rw [hX.2.1] at this
      exact congrArg iI this.symm
    · rw [upd_ne h, w4 i (by omega)]
      exact congrArg iI (getD_app_lt (by rw [hX.2.1]; omega)).symm
theorem wf_send {X : aW} {k : Int} (hX : wf X) (hn : X.1.length < 32) (h0 : 0 ≤ k) (h1 : k < 34) : wf (sX X k) := by
  obtain ⟨x1, x2, x3, x4⟩ := hX
  have hl : (sX X k).1.length = X.1.length + 1 := by simp [sX]
  refine ⟨by omega, by simp [sX, x2], fun i hi => ?_, fun i hi => ?_⟩
  · rw [hl] at hi
    by_cases h : i = X.1.length
    · subst h
      simp only [sX, getD_app_eq]
      exact ⟨h0, h1⟩
    · simp only [sX]
      rw [getD_app_lt (by omega)]
      exact x3 i (by omega)
  · rw [hl] at hi
    by_cases h : i = X.1.length
    · subst h
      have := getD_app_eq X.2 (fD k (sm X.1))
      rw [x2] at this
      simp only [sX]
      rw [this]
      exact fD_b _ h0 h1
    · simp only [sX]
      rw [getD_app_lt (by omega)]
      exact x4 i (by omega)
def rcG (o l i : Int) : Int := if i < 0 ∨ (if l = -9 then 0 else if o = -9 then 1 else 2) ≤ i then -9 else if i = (if l = -9 then 0 else if o = -9 then 1 else 2) - 1 then l else o
theorem k_markSentLately {w : Nat} {n s o l i : Int} (hk : kd t w = 3) (hw : V w = wiR w n s o l) (ho : -9 ≤ o ∧ o ≤ 2) (hl : -9 ≤ l ∧ l ≤ 2) (h1 : -2147483648 ≤ i) (h2 : i < 2147483648) : Call (d + 1) 31 [.ref w, .int (iI i)] (t, V, A, P) Q = Q (some (.int (iI (rcG o l i)))) (t, V, A, P) := by
  simp (disch := first | assumption | omega | exact isB_z | exact isB_o | exact iI_in' (by assumption) (by omega) (by omega) | exact cat_int _ | exact cat_ref _ | exact cat_null | decide) only [c_31, ↓x_31_0, ↓x_31_1, ↓x_31_4, ↓x_31_6, ↓x_31_9, ↓x_31_10, ↓x_31_13, ↓x_31_14, ↓x_31_17, ↓x_31_19, ↓x_31_22, ↓x_31_23, ↓x_31_26, up1_same, up1_ne, up1_up1, us_0, us_1, us_2, us_3, us_4, us_5, us_6, us_7, us_8, us_9, us_10, us_11, rw_zero, rw_succ, Option.toList_some, Option.toList_none, List.cons_append, List.nil_append, cat_int, cat_ref, cat_null, iI_add, iI_sub, iI_mul, iI_neg, List.length_cons, List.length_nil, ↓reduceIte, va_rf_some, wiR, hw, iI_eq]
  by_cases a : l = -9
  · simp (disch := first | assumption | omega | exact isB_z | exact isB_o | exact iI_in' (by assumption) (by omega) (by omega) | exact cat_int _ | exact cat_ref _ | exact cat_null | decide) only [a, if_true, ↓x_31_0, ↓x_31_1, ↓x_31_4, ↓x_31_6, ↓x_31_9, ↓x_31_10, ↓x_31_13, ↓x_31_14, ↓x_31_17, ↓x_31_19, ↓x_31_22, ↓x_31_23, ↓x_31_26, ↓x_31_27, ↓x_31_28, ↓x_31_29, ↓x_31_32, ↓x_31_33, ↓x_31_34, ↓x_31_37, ↓x_31_39, ↓x_31_40, ↓x_31_41, ↓x_31_42, ↓x_31_43, ↓x_31_44, ↓x_31_47, ↓x_31_48, ↓x_31_51, ↓x_31_54, ↓x_31_55, ↓x_31_58, up1_same, up1_ne, up1_up1, us_0, us_1, us_2, us_3, us_4, us_5, us_6, us_7, us_8, us_9, us_10, us_11, rw_zero, rw_succ, Option.toList_some, Option.toList_none, List.cons_append, List.nil_append, cat_int, cat_ref, cat_null, iI_add, iI_sub, iI_mul, iI_neg, List.length_cons, List.length_nil, ↓reduceIte, va_rf_some, wiR, hw, iI_lt, iI_eq, rcG]
    by_cases b : i < 0
    · simp [b]
    · simp [b, show 0 ≤ i by omega]
  · by_cases b : o = -9
    · simp (disch := first | assumption | omega | exact isB_z | exact isB_o | exact iI_in' (by assumption) (by omega) (by omega) | exact cat_int _ | exact cat_ref _ | exact cat_null | decide) only [a, b, if_true, if_false, ↓x_31_0, ↓x_31_1, ↓x_31_4, ↓x_31_6, ↓x_31_9, ↓x_31_10, ↓x_31_13, ↓x_31_14, ↓x_31_17, ↓x_31_19, ↓x_31_22, ↓x_31_23, ↓x_31_26, ↓x_31_27, ↓x_31_28, ↓x_31_29, ↓x_31_32, ↓x_31_33, ↓x_31_34, ↓x_31_37, ↓x_31_39, ↓x_31_40, ↓x_31_41, ↓x_31_42, ↓x_31_43, ↓x_31_44, ↓x_31_47, ↓x_31_48, ↓x_31_51, ↓x_31_54, ↓x_31_55, ↓x_31_58, up1_same, up1_ne, up1_up1, us_0, us_1, us_2, us_3, us_4, us_5, us_6, us_7, us_8, us_9, us_10, us_11, rw_zero, rw_succ, Option.toList_some, Option.toList_none, List.cons_append, List.nil_append, cat_int, cat_ref, cat_null, iI_add, iI_sub, iI_mul, iI_neg, List.length_cons, List.length_nil, ↓reduceIte, va_rf_some, wiR, hw, iI_lt, iI_eq, rcG]
      by_cases c : i < 0
      · simp [c]
      · by_cases g : i < 1
        · have : i = 0 := by omega
          subst this
          simp
        · simp [c, g, show 1 ≤ i by omega]
    · simp (disch := first | assumption | omega | exact isB_z | exact isB_o | exact iI_in' (by assumption) (by omega) (by omega) | exact cat_int _ | exact cat_ref _ | exact cat_null | decide) only [a, b, if_false, ↓x_31_0, ↓x_31_1, ↓x_31_4, ↓x_31_6, ↓x_31_9, ↓x_31_10, ↓x_31_13, ↓x_31_14, ↓x_31_17, ↓x_31_19, ↓x_31_22, ↓x_31_23, ↓x_31_26, ↓x_31_27, ↓x_31_28, ↓x_31_29, ↓x_31_32, ↓x_31_33, ↓x_31_34, ↓x_31_37, ↓x_31_39, ↓x_31_40, ↓x_31_41, ↓x_31_42, ↓x_31_43, ↓x_31_44, ↓x_31_47, ↓x_31_48, ↓x_31_51, ↓x_31_54, ↓x_31_55, ↓x_31_58, up1_same, up1_ne, up1_up1, us_0, us_1, us_2, us_3, us_4, us_5, us_6, us_7, us_8, us_9, us_10, us_11, rw_zero, rw_succ, Option.toList_some, Option.toList_none, List.cons_append, List.nil_append, cat_int, cat_ref, cat_null, iI_add, iI_sub, iI_mul, iI_neg, List.length_cons, List.length_nil, ↓reduceIte, va_rf_some, wiR, hw, iI_lt, iI_eq, rcG]
      by_cases c : i < 0
      · simp [c]
      · by_cases g : i < 2
        · by_cases e : i = 1
          · subst e; simp
          · simp [c, g, e, show ¬ 2 ≤ i by omega]
        · simp [c, g, show 2 ≤ i by omega]
theorem carry_loop {o w : Nat} {X : aW} {A0 : Nat → Nat → Int32} (hKo : wiK t o) (hKw : wiK t w) (ho : V o = wiX o X) (hwr : ∃ n s x y, V w = wiR w n s x y) (hX : wf X) (hne : o + 3 < w ∨ w + 3 < o) : ∀ (m : Nat) (k : Int) (A : Nat → Nat → Int32), 0 ≤ k → k + m = X.1.length → (∀ a, ¬ (w + 1 ≤ a ∧ a ≤ w + 3) → A a = A0 a) → (∀ i : Nat, i < k → A (w + 1) i = A0 (o + 1) i ∧ A (w + 2) i = A0 (o + 2) i ∧ A (w + 3) i = A0 (o + 3) i) → (∀ A' : Nat → Nat → Int32, (∀ a, ¬ (w + 1 ≤ a ∧ a ≤ w + 3) → A' a = A0 a) → (∀ i : Nat, i < X.1.length → A' (w + 1) i = A0 (o + 1) i ∧ A' (w + 2) i = A0 (o + 2) i ∧ A' (w + 3) i = A0 (o + 3) i) → Q none (t, up1 V w (wiX w X), A', P)) → Ev d 28 11 [.ref o, .ref w, .int (iI k)] [] (t, V, A, P) Q := by
  obtain ⟨k1, k2, k3, k4, k5, k6, k7⟩ := hKo
  obtain ⟨j1, j2, j3, j4, j5, j6, j7⟩ := hKw
  obtain ⟨n, s, x, y, hw⟩ := hwr
  obtain ⟨x1, x2, x3, x4⟩ := hX
  intro m
  induction m with
  | zero =>
    intro k A h0 h1 hf hc hQ
    rw [x_28_11]
    have e1 : ¬ k < X.1.length := by omega
    simp (disch := first | assumption | omega | exact isB_z | exact isB_o | exact iI_in' (by assumption) (by omega) (by omega) | exact cat_int _ | exact cat_ref _ | exact cat_null | decide) only [↓x_28_0, ↓x_28_1, ↓x_28_4, ↓x_28_5, ↓x_28_8, ↓x_28_9, ↓x_28_10, ↓x_28_12, ↓x_28_13, ↓x_28_16, ↓x_28_19, ↓x_28_20, ↓x_28_22, ↓x_28_25, ↓x_28_26, ↓x_28_29, ↓x_28_30, ↓x_28_31, ↓x_28_34, ↓x_28_35, ↓x_28_36, ↓x_28_37, ↓x_28_38, ↓x_28_41, ↓x_28_42, ↓x_28_43, ↓x_28_46, ↓x_28_47, ↓x_28_48, ↓x_28_49, ↓x_28_50, ↓x_28_53, ↓x_28_54, ↓x_28_55, ↓x_28_58, ↓x_28_59, ↓x_28_60, ↓x_28_61, ↓x_28_64, ↓x_28_67, ↓x_28_68, ↓x_28_69, ↓x_28_72, ↓x_28_75, ↓x_28_76, ↓x_28_77, ↓x_28_80, ↓x_28_83, ↓x_28_84, ↓x_28_85, ↓x_28_88, ↓x_28_91, ↓x_28_92, ↓x_28_93, ↓x_28_96, ↓x_28_99, up1_same, up1_ne, up1_up1, us_0, us_1, us_2, us_3, us_4, us_5, us_6, us_7, us_8, us_9, us_10, us_11, rw_zero, rw_succ, Option.toList_some, Option.toList_none, List.cons_append, List.nil_append, cat_int, cat_ref, cat_null, iI_add, iI_sub, iI_mul, iI_neg, List.length_cons, List.length_nil, ↓reduceIte, va_rf_some, wiR, wiX, ho, hw, iI_lt, e1, if_false]
    exact hQ A hf (fun i hi => hc i (by omega))
  | succ m ih =>
    intro k A h0 h1 hf hc hQ
    rw [x_28_11]
    have e1 : k < X.1.length := by omega
    have e2 : k < 32 := by omega
    simp (disch := first | assumption | omega | exact isB_z | exact isB_o | exact iI_in' (by assumption) (by omega) (by omega) | exact cat_int _ | exact cat_ref _ | exact cat_null | decide) only [↓x_28_0, ↓x_28_1, ↓x_28_4, ↓x_28_5, ↓x_28_8, ↓x_28_9, ↓x_28_10, ↓x_28_12, ↓x_28_13, ↓x_28_16, ↓x_28_19, ↓x_28_20, ↓x_28_22, ↓x_28_25, ↓x_28_26, ↓x_28_29, ↓x_28_30, ↓x_28_31, ↓x_28_34, ↓x_28_35, ↓x_28_36, ↓x_28_37, ↓x_28_38, ↓x_28_41, ↓x_28_42, ↓x_28_43, ↓x_28_46, ↓x_28_47, ↓x_28_48, ↓x_28_49, ↓x_28_50, ↓x_28_53, ↓x_28_54, ↓x_28_55, ↓x_28_58, ↓x_28_59, ↓x_28_60, ↓x_28_61, ↓x_28_64, ↓x_28_67, ↓x_28_68, ↓x_28_69, ↓x_28_72, ↓x_28_75, ↓x_28_76, ↓x_28_77, ↓x_28_80, ↓x_28_83, ↓x_28_84, ↓x_28_85, ↓x_28_88, ↓x_28_91, ↓x_28_92, ↓x_28_93, ↓x_28_96, ↓x_28_99, up1_same, up1_ne, up1_up1, us_0, us_1, us_2, us_3, us_4, us_5, us_6, us_7, us_8, us_9, us_10, us_11, rw_zero, rw_succ, Option.toList_some, Option.toList_none, List.cons_append, List.nil_append, cat_int, cat_ref, cat_null, iI_add, iI_sub, iI_mul, iI_neg, List.length_cons, List.length_nil, ↓reduceIte, va_rf_some, wiR, wiX, ho, hw, iI_lt, e1, e2, if_true, iI_cl]
    refine ih (k + 1) _ (by omega) (by omega) (fun a ha => ?_) (fun i hi => ?_) hQ
    · rw [up1_ne (by omega), up1_ne (by omega), up1_ne (by omega)]
      exact hf a ha
    · have q1 := hf (o + 1) (by omega)
      have q2 := hf (o + 2) (by omega)
      have q3 := hf (o + 3) (by omega)
      simp (disch := first | assumption | omega | exact isB_z | exact isB_o | exact iI_in' (by assumption) (by omega) (by omega) | exact cat_int _ | exact cat_ref _ | exact cat_null | decide) only [up1_same, up1_ne, q1, q2, q3]
      by_cases h : i = k.toNat
      · subst h
        simp only [upd_same, and_self]
      · rw [upd_ne h, upd_ne h, upd_ne h]
        exact hc i (by omega)
theorem k_carry {o w : Nat} {X : aW} (hKo : wiK t o) (hKw : wiK t w) (ho : wiH V A o X) (hwr : ∃ n s x y, V w = wiR w n s x y) (hX : wf X) (hne : o + 3 < w ∨ w + 3 < o) (hQ : ∀ A' : Nat → Nat → Int32, (∀ a, ¬ (w + 1 ≤ a ∧ a ≤ w + 3) → A' a = A a) → wiH (up1 V w (wiX w X)) A' w X → Q none (t, up1 V w (wiX w X), A', P)) : Call (d + 1) 28 [.ref o, .ref w] (t, V, A, P) Q := by
  simp (disch := first | assumption | omega | exact isB_z | exact isB_o | exact iI_in' (by assumption) (by omega) (by omega) | exact cat_int _ | exact cat_ref _ | exact cat_null | decide) only [c_28, ↓x_28_0, ↓x_28_1, ↓x_28_4, ↓x_28_5, ↓x_28_8, ↓x_28_9, ↓x_28_10, ↓x_28_12, ↓x_28_13, ↓x_28_16, ↓x_28_19, ↓x_28_20, ↓x_28_22, ↓x_28_25, ↓x_28_26, ↓x_28_29, ↓x_28_30, ↓x_28_31, ↓x_28_34, ↓x_28_35, ↓x_28_36, ↓x_28_37, ↓x_28_38, ↓x_28_41, ↓x_28_42, ↓x_28_43, ↓x_28_46, ↓x_28_47, ↓x_28_48, ↓x_28_49, ↓x_28_50, ↓x_28_53, ↓x_28_54, ↓x_28_55, ↓x_28_58, ↓x_28_59, ↓x_28_60, ↓x_28_61, ↓x_28_64, ↓x_28_67, ↓x_28_68, ↓x_28_69, ↓x_28_72, ↓x_28_75, ↓x_28_76, ↓x_28_77, ↓x_28_80, ↓x_28_83, ↓x_28_84, ↓x_28_85, ↓x_28_88, ↓x_28_91, ↓x_28_92, ↓x_28_93, ↓x_28_96, ↓x_28_99, up1_same, up1_ne, up1_up1, us_0, us_1, us_2, us_3, us_4, us_5, us_6, us_7, us_8, us_9, us_10, us_11, rw_zero, rw_succ, Option.toList_some, Option.toList_none, List.cons_append, List.nil_append, cat_int, cat_ref, cat_null, iI_add, iI_sub, iI_mul, iI_neg, List.length_cons, List.length_nil, ↓reduceIte, va_rf_some, wiR]
  refine carry_loop hKo hKw ho.1 hwr hX hne X.1.length 0 A (by omega) (by omega) (fun _ _ => rfl) (fun i hi => by omega) (fun A' hf hc => hQ A' hf ⟨up1_same _ _ _, fun i hi => ?_, fun i hi => ?_, fun i hi => ?_⟩)
  · rw [(hc i hi).1]; exact ho.2.1 i hi
  · rw [(hc i hi).2.1]; exact ho.2.2.1 i hi
  · rw [(hc i hi).2.2]; exact ho.2.2.2 i hi
end
