/-! THE MODEL: levels, runs, counts -/
theorem snF_at : ∀ (l : List Int) (s : Int) (w : Nat), w < l.length → (snF s l).getD w 0 = fD (l.getD w 0) (smF s (l.take w)) := by
  intro l
  induction l with
  | nil => intro s w h; simp at h
  | cons k l ih =>
    intro s w h
    cases w with
    | zero => simp [snF, smF]
    | succ w =>
      have := ih (sB (fD k s) s) w (by simpa using h)
      simpa [snF, smF] using this
theorem smF_at : ∀ (l : List Int) (s : Int) (w : Nat), w < l.length → smF s (l.take (w + 1)) = sB (fD (l.getD w 0) (smF s (l.take w))) (smF s (l.take w)) := by
  intro l
  induction l with
  | nil => intro s w h; simp at h
  | cons k l ih =>
    intro s w h
    cases w with
    | zero => simp [smF]
    | succ w =>
      have := ih (sB (fD k s) s) w (by simpa using h)
      simpa [smF] using this
/-- SUM behind w words -/
theorem wk_sm (X : aW) : ∀ w : Nat, w ≤ X.1.length → (wkG (sntG X) (-1) w).1 = smF (-1) (X.1.take w) := by
  intro w
  induction w with
  | zero => intro _; simp [wkG, smF]
  | succ w ih =>
    intro h
    show sB (sntG X w) (wkG (sntG X) (-1) w).1 = _
    rw [ih (by omega), smF_at _ _ _ (by omega)]
    unfold sntG snt
    rw [snF_at _ _ _ (by omega)]
/-- a word as it was sent, by the sum ahead of it -/
theorem snt_wk (X : aW) (w : Nat) (h : w < X.1.length) : fD (X.1.getD w 0) (wkG (sntG X) (-1) w).1 = sntG X w := by
  rw [wk_sm X w (by omega)]
  unfold sntG snt
  rw [snF_at _ _ _ h]
theorem sumI_last (f : Int → Int) : ∀ (m : Nat) (k : Int), sumI f k (m + 1) = sumI f k m + f (k + m) := by
  intro m
  induction m with
  | zero => intro k; simp [sumI]
  | succ m ih =>
    intro k
    have e : k + 1 + (m : Int) = k + ((m + 1 : Nat) : Int) := by omega
    show f k + sumI f (k + 1) (m + 1) = (f k + sumI f (k + 1) m) + f (k + ((m + 1 : Nat) : Int))
    rw [ih (k + 1), e, Int.add_assoc]
/-- ones of so many bits -/
def onF (X : aW) : Nat → Int
  | 0 => 0
  | b + 1 => onF X b + btA X.2 b
theorem btA_w (l : List Int) (w j : Nat) (hj : j < 6) : btA l ((6 * w + j : Nat) : Int) = l.getD w 0 / 2 ^ (5 - j) % 2 := by
  unfold btA
  have e1 : (((6 * w + j : Nat) : Int) / 6).toNat = w := by omega
  have e2 : (5 - ((6 * w + j : Nat) : Int) % 6).toNat = 5 - j := by omega
  rw [e1, e2]
theorem onF_b (X : aW) : ∀ b : Nat, 0 ≤ onF X b ∧ onF X b ≤ b := by
  intro b
  induction b with
  | zero => simp [onF]
  | succ b ih => have := btA_b X.2 b; simp only [onF]; omega
theorem onF_sum {X : aW} (hX : wf X) : ∀ w : Nat, w ≤ X.1.length → onF X (6 * w) = sumI (fun i => pcI (X.2.getD i.toNat 0)) 0 w := by
  intro w
  induction w with
  | zero => intro _; rfl
  | succ w ih =>
    intro h
    have hv := hX.2.2.2 w (by omega)
    have ht := bdd (P := fun n => n / 2 ^ 0 % 2 + n / 2 ^ 1 % 2 + n / 2 ^ 2 % 2 + n / 2 ^ 3 % 2 + n / 2 ^ 4 % 2 + n / 2 ^ 5 % 2 = pcI n) ones_tab hv.1 hv.2
    rw [sumI_last, ← ih (by omega), show (0 : Int) + (w : Int) = w by omega, Int.toNat_natCast, ← ht]
    show onF X (6 * w) + btA X.2 ((6 * w + 0 : Nat) : Int) + btA X.2 ((6 * w + 1 : Nat) : Int) + btA X.2 ((6 * w + 2 : Nat) : Int) + btA X.2 ((6 * w + 3 : Nat) : Int) + btA X.2 ((6 * w + 4 : Nat) : Int) + btA X.2 ((6 * w + 5 : Nat) : Int) = _
    rw [btA_w _ _ _ (by omega), btA_w _ _ _ (by omega), btA_w _ _ _ (by omega), btA_w _ _ _ (by omega), btA_w _ _ _ (by omega), btA_w _ _ _ (by omega)]
    simp only [Nat.reduceSub]
    omega
def df1 (a v : Int) (j : Nat) : Int := if a / 2 ^ j % 2 = v / 2 ^ j % 2 then 0 else 1
/-- in how many of the first j bits two words differ -/
def dfS (a v : Int) : Nat → Int
  | 0 => 0
  | j + 1 => dfS a v j + df1 a v (5 - j)
theorem dfS_tab : ∀ a : Nat, a < 64 → ∀ v : Nat, v < 64 → dfS a v 6 = dfI a v := by decide +kernel
theorem dfS_6 {a v : Int} (h0 : 0 ≤ a) (h1 : a < 64) (v0 : 0 ≤ v) (v1 : v < 64) : dfS a v 6 = dfI a v := by
  have := dfS_tab a.toNat (by omega) v.toNat (by omega)
  rwa [Int.toNat_of_nonneg h0, Int.toNat_of_nonneg v0] at this
theorem dfS_b (a v : Int) : ∀ j : Nat, 0 ≤ dfS a v j ∧ dfS a v j ≤ j := by
  intro j
  induction j with
  | zero => simp [dfS]
  | succ j ih =>
    have : 0 ≤ df1 a v (5 - j) ∧ df1 a v (5 - j) ≤ 1 := by unfold df1; split <;> omega
    simp only [dfS]
    omega
section
variable {d : Nat} {t : mL} {V : Nat → Nat → Value} {A : Nat → Nat → Int32} {P : Nat → Nat → Option Nat} {μ : mM} {Q : Option Value → mM → Prop} {S : aS} {g : Nat → Int} {X : aW}
theorem stF_1 (X : aW) (b : Nat) : (stF X (b + 1)).1 = (stF X b).1 + (if btA X.2 b = 1 then 1 else -1) := rfl
theorem lays_lv {A0 : Nat → Nat → Int32} (hK : mK t) (hX : wf X) (hm : mH (A0 63) X) (hQ : ∀ A' : Nat → Nat → Int32, (∀ b : Nat, b < X.1.length * 6 → A' 75 b = iI (stF X (b + 1)).1) → (∀ a, a ≠ 75 → A' a = A0 a) → Q none (t, up1 V 62 (mdR g), A', P)) : ∀ (n b : Nat) (A : Nat → Nat → Int32), b + n = X.1.length * 6 → (∀ q : Nat, q < b → A 75 q = iI (stF X (q + 1)).1) → (∀ a, a ≠ 75 → A a = A0 a) → Ev d 114 4 [.ref 62, .int (iI (stF X b).1), .int (iI b)] [] (t, up1 V 62 (mdR g), A, P) Q := by
  obtain ⟨m0, ⟨m1, l1⟩, ⟨m2, l2⟩, ⟨m3, l3⟩, ⟨m4, l4⟩, ⟨m5, l5⟩, ⟨m6, l6⟩, ⟨m7, l7⟩, ⟨m8, l8⟩, ⟨m9, l9⟩, ⟨m10, l10⟩, ⟨m11, l11⟩, ⟨m12, l12⟩, ⟨m13, l13⟩, ⟨m14, l14⟩, m15, l15⟩ := hK
  have hl := hX.1
  intro n
  induction n with
  | zero =>
    intro b A hb hT hA
    have a0 : A 63 0 = iI X.1.length := by rw [hA 63 (by omega)]; exact hm.h0
    have e : ¬ (b : Int) < 6 * (X.1.length : Int) := by omega
    rw [x_114_4]
    simp (disch := first | assumption | omega | exact isB_z | exact isB_o | exact iI_in' (by assumption) (by omega) (by omega) | exact cat_int _ | exact cat_ref _ | exact cat_null | decide) only [↓x_114_5, ↓x_114_7, ↓x_114_8, ↓x_114_11, ↓x_114_12, ↓x_114_13, ↓x_114_14, ↓x_114_51, up1_same, up1_ne, up1_up1, us_0, us_1, us_2, us_3, us_4, us_5, us_6, us_7, us_8, us_9, us_10, us_11, rw_zero, rw_succ, Option.toList_some, Option.toList_none, List.cons_append, List.nil_append, cat_int, cat_ref, cat_null, iI_add, iI_sub, iI_mul, iI_neg, List.length_cons, List.length_nil, ↓reduceIte, va_rf_some, Int.reduceToNat, md_0, md_1, md_2, md_3, md_4, md_5, md_6, md_7, md_8, md_9, md_10, md_11, md_12, md_13, md_14, md_15, md_16, md_17, md_18, md_19, md_20, md_21, md_22, md_23, md_24, md_25, md_26, md_27, md_28, md_29, md_30, md_31, mu_0, mu_3, mu_7, mu_9, mu_12, mu_13, mu_14, mu_15, mu_16, mu_17, mu_18, mu_23, mu_24, mu_26, mu_27, mu_28, mu_29, i10, iI_eq, iI_lt, iI_cl, if_true, if_false, and_self, a0, e]
    exact hQ A (fun q hq => hT q (by omega)) hA
  | succ n ih =>
    intro b A hb hT hA
    have a0 : A 63 0 = iI X.1.length := by rw [hA 63 (by omega)]; exact hm.h0
    have e : (b : Int) < 6 * (X.1.length : Int) := by omega
    have tn1 : ((b : Nat) : Int).toNat = b := Int.toNat_natCast _
    have tn2 : (36 + (b : Int)).toNat = 36 + b := by omega
    have ci : (b : Int) + 1 = ((b + 1 : Nat) : Int) := by omega
    have hbit : A 63 (36 + b) = iI (btA X.2 b) := by rw [hA 63 (by omega)]; exact hm.h5 b (by omega)
    have hbb := btA_b X.2 b
    have es := stF_1 X b
    have hgo : ∀ z : Int, z = (stF X (b + 1)).1 → Ev d 114 4 [.ref 62, .int (iI z), .int (iI ((b + 1 : Nat) : Int))] [] (t, up1 V 62 (mdR g), up1 A 75 (upd (A 75) b (iI z)), P) Q := fun z hz => by
      subst hz
      refine ih (b + 1) _ (by omega) (fun q hq => ?_) (fun a ha => by rw [up1_ne ha]; exact hA a ha)
      rw [up1_same]
      by_cases c : q = b
      · subst c; rw [upd_same]
      · rw [upd_ne c]; exact hT q (by omega)
    rw [x_114_4]
    by_cases c : btA X.2 b = 1
    · rw [if_pos c] at es
      simp (disch := first | assumption | omega | exact isB_z | exact isB_o | exact iI_in' (by assumption) (by omega) (by omega) | exact cat_int _ | exact cat_ref _ | exact cat_null | decide) only [↓x_114_5, ↓x_114_7, ↓x_114_8, ↓x_114_11, ↓x_114_12, ↓x_114_13, ↓x_114_14, ↓x_114_17, ↓x_114_18, ↓x_114_19, ↓x_114_22, ↓x_114_24, ↓x_114_25, ↓x_114_26, ↓x_114_27, ↓x_114_28, ↓x_114_31, ↓x_114_32, ↓x_114_35, ↓x_114_36, ↓x_114_37, ↓x_114_38, ↓x_114_39, ↓x_114_42, ↓x_114_43, ↓x_114_44, ↓x_114_45, ↓x_114_48, up1_same, up1_ne, up1_up1, us_0, us_1, us_2, us_3, us_4, us_5, us_6, us_7, us_8, us_9, us_10, us_11, rw_zero, rw_succ, Option.toList_some, Option.toList_none, List.cons_append, List.nil_append, cat_int, cat_ref, cat_null, iI_add, iI_sub, iI_mul, iI_neg, List.length_cons, List.length_nil, ↓reduceIte, va_rf_some, Int.reduceToNat, md_0, md_1, md_2, md_3, md_4, md_5, md_6, md_7, md_8, md_9, md_10, md_11, md_12, md_13, md_14, md_15, md_16, md_17, md_18, md_19, md_20, md_21, md_22, md_23, md_24, md_25, md_26, md_27, md_28, md_29, md_30, md_31, mu_0, mu_3, mu_7, mu_9, mu_12, mu_13, mu_14, mu_15, mu_16, mu_17, mu_18, mu_23, mu_24, mu_26, mu_27, mu_28, mu_29, i10, iI_eq, iI_lt, iI_cl, if_true, if_false, and_self, a0, e, tn1, tn2, hbit, c, ci]
      exact hgo _ es.symm
    · rw [if_neg c] at es
      simp (disch := first | assumption | omega | exact isB_z | exact isB_o | exact iI_in' (by assumption) (by omega) (by omega) | exact cat_int _ | exact cat_ref _ | exact cat_null | decide) only [↓x_114_5, ↓x_114_7, ↓x_114_8, ↓x_114_11, ↓x_114_12, ↓x_114_13, ↓x_114_14, ↓x_114_17, ↓x_114_18, ↓x_114_19, ↓x_114_22, ↓x_114_24, ↓x_114_25, ↓x_114_26, ↓x_114_27, ↓x_114_28, ↓x_114_31, ↓x_114_32, ↓x_114_35, ↓x_114_36, ↓x_114_37, ↓x_114_38, ↓x_114_39, ↓x_114_42, ↓x_114_43, ↓x_114_44, ↓x_114_45, ↓x_114_48, up1_same, up1_ne, up1_up1, us_0, us_1, us_2, us_3, us_4, us_5, us_6, us_7, us_8, us_9, us_10, us_11, rw_zero, rw_succ, Option.toList_some, Option.toList_none, List.cons_append, List.nil_append, cat_int, cat_ref, cat_null, iI_add, iI_sub, iI_mul, iI_neg, List.length_cons, List.length_nil, ↓reduceIte, va_rf_some, Int.reduceToNat, md_0, md_1, md_2, md_3, md_4, md_5, md_6, md_7, md_8, md_9, md_10, md_11, md_12, md_13, md_14, md_15, md_16, md_17, md_18, md_19, md_20, md_21, md_22, md_23, md_24, md_25, md_26, md_27, md_28, md_29, md_30, md_31, mu_0, mu_3, mu_7, mu_9, mu_12, mu_13, mu_14, mu_15, mu_16, mu_17, mu_18, mu_23, mu_24, mu_26, mu_27, mu_28, mu_29, i10, iI_eq, iI_lt, iI_cl, if_true, if_false, and_self, a0, e, tn1, tn2, hbit, c, ci]
      exact hgo _ es.symm
theorem k_laysLevels (hK : mK t) (hX : wf X) (hm : mH (A 63) X) (hQ : ∀ A' : Nat → Nat → Int32, (∀ b : Nat, b < X.1.length * 6 → A' 75 b = iI (stF X (b + 1)).1) → (∀ a, a ≠ 75 → A' a = A a) → Q none (t, up1 V 62 (mdR g), A', P)) : Call (d + 1) 114 [.ref 62] (t, up1 V 62 (mdR g), A, P) Q := by
  simp (disch := first | assumption | omega | exact isB_z | exact isB_o | exact iI_in' (by assumption) (by omega) (by omega) | exact cat_int _ | exact cat_ref _ | exact cat_null | decide) only [c_114, ↓x_114_0, ↓x_114_1, ↓x_114_2, ↓x_114_3, up1_same, up1_ne, up1_up1, us_0, us_1, us_2, us_3, us_4, us_5, us_6, us_7, us_8, us_9, us_10, us_11, rw_zero, rw_succ, Option.toList_some, Option.toList_none, List.cons_append, List.nil_append, cat_int, cat_ref, cat_null, iI_add, iI_sub, iI_mul, iI_neg, List.length_cons, List.length_nil, ↓reduceIte, va_rf_some, Int.reduceToNat, md_0, md_1, md_2, md_3, md_4, md_5, md_6, md_7, md_8, md_9, md_10, md_11, md_12, md_13, md_14, md_15, md_16, md_17, md_18, md_19, md_20, md_21, md_22, md_23, md_24, md_25, md_26, md_27, md_28, md_29, md_30, md_31, mu_0, mu_3, mu_7, mu_9, mu_12, mu_13, mu_14, mu_15, mu_16, mu_17, mu_18, mu_23, mu_24, mu_26, mu_27, mu_28, mu_29]
  exact lays_lv hK hX hm hQ (X.1.length * 6) 0 A (by omega) (fun q hq => absurd hq (by omega)) (fun _ _ => rfl)
theorem longest_loop (hK : mK t) (hX : wf X) (hm : mH (A 63) X) : ∀ (n b : Nat), b + n = X.1.length * 6 → Ev d 115 6 [.ref 62, .int (iI (stF X b).2.2.2), .int (iI (stF X b).2.2.1), .int (iI b)] [] (t, up1 V 62 (mdR g), A, P) Q = Q (some (.int (iI (stF X (X.1.length * 6)).2.2.2))) (t, up1 V 62 (mdR g), A, P) := by
  obtain ⟨m0, ⟨m1, l1⟩, ⟨m2, l2⟩, ⟨m3, l3⟩, ⟨m4, l4⟩, ⟨m5, l5⟩, ⟨m6, l6⟩, ⟨m7, l7⟩, ⟨m8, l8⟩, ⟨m9, l9⟩, ⟨m10, l10⟩, ⟨m11, l11⟩, ⟨m12, l12⟩, ⟨m13, l13⟩, ⟨m14, l14⟩, m15, l15⟩ := hK
  have hl := hX.1
  have a0 := hm.h0
  intro n
  induction n with
  | zero =>
    intro b hb
    have hb' : b = X.1.length * 6 := by omega
    rw [← hb']
    have e : ¬ (b : Int) < 6 * (X.1.length : Int) := by omega
    rw [x_115_6]
    simp (disch := first | assumption | omega | exact isB_z | exact isB_o | exact iI_in' (by assumption) (by omega) (by omega) | exact cat_int _ | exact cat_ref _ | exact cat_null | decide) only [↓x_115_7, ↓x_115_9, ↓x_115_10, ↓x_115_13, ↓x_115_14, ↓x_115_15, ↓x_115_16, ↓x_115_71, ↓x_115_72, up1_same, up1_ne, up1_up1, us_0, us_1, us_2, us_3, us_4, us_5, us_6, us_7, us_8, us_9, us_10, us_11, rw_zero, rw_succ, Option.toList_some, Option.toList_none, List.cons_append, List.nil_append, cat_int, cat_ref, cat_null, iI_add, iI_sub, iI_mul, iI_neg, List.length_cons, List.length_nil, ↓reduceIte, va_rf_some, Int.reduceToNat, md_0, md_1, md_2, md_3, md_4, md_5, md_6, md_7, md_8, md_9, md_10, md_11, md_12, md_13, md_14, md_15, md_16, md_17, md_18, md_19, md_20, md_21, md_22, md_23, md_24, md_25, md_26, md_27, md_28, md_29, md_30, md_31, mu_0, mu_3, mu_7, mu_9, mu_12, mu_13, mu_14, mu_15, mu_16, mu_17, mu_18, mu_23, mu_24, mu_26, mu_27, mu_28, mu_29, i10, iI_eq, iI_lt, iI_cl, if_true, if_false, and_self, a0, e]
  | succ n ih =>
    intro b hb
    have e : (b : Int) < 6 * (X.1.length : Int) := by omega
    have tn2 : (36 + (b : Int)).toNat = 36 + b := by omega
    have ci : (b : Int) + 1 = ((b + 1 : Nat) : Int) := by omega
    have hbit : A 63 (36 + b) = iI (btA X.2 b) := hm.h5 b (by omega)
    have hbb := btA_b X.2 b
    have hok := stF_OK X b
    have q5 := hok.2.2.2.2.1
    have q6 := hok.2.2.2.2.2.1
    have q7 := hok.2.2.2.2.2.2.1
    have q8 := hok.2.2.2.2.2.2.2
    have hr : (stF X (b + 1)).2.2.1 = if btA X.2 b = (stF X b).2.1 then (stF X b).2.2.1 + 1 else 1 := rfl
    have hx : (stF X (b + 1)).2.2.2 = max (stF X b).2.2.2 (stF X (b + 1)).2.2.1 := rfl
    have hgo : ∀ z : Int, z = (stF X (b + 1)).2.2.1 → 0 ≤ z → z ≤ 300 → Ev d 115 53 [.ref 62, .int (iI (stF X b).2.2.2), .int (iI (stF X b).2.2.1), .int (iI b)] [.int (iI z)] (t, up1 V 62 (mdR g), A, P) Q = Q (some (.int (iI (stF X (X.1.length * 6)).2.2.2))) (t, up1 V 62 (mdR g), A, P) := fun z hz z0 z1 => by
      subst hz
      rw [← ih (b + 1) (by omega)]
      by_cases c : (stF X b).2.2.2 < (stF X (b + 1)).2.2.1
      · have e2 : (stF X (b + 1)).2.2.2 = (stF X (b + 1)).2.2.1 := by omega
        simp (disch := first | assumption | omega | exact isB_z | exact isB_o | exact iI_in' (by assumption) (by omega) (by omega) | exact cat_int _ | exact cat_ref _ | exact cat_null | decide) only [↓x_115_53, ↓x_115_54, ↓x_115_55, ↓x_115_56, ↓x_115_59, ↓x_115_60, ↓x_115_63, ↓x_115_64, ↓x_115_65, ↓x_115_68, up1_same, up1_ne, up1_up1, us_0, us_1, us_2, us_3, us_4, us_5, us_6, us_7, us_8, us_9, us_10, us_11, rw_zero, rw_succ, Option.toList_some, Option.toList_none, List.cons_append, List.nil_append, cat_int, cat_ref, cat_null, iI_add, iI_sub, iI_mul, iI_neg, List.length_cons, List.length_nil, ↓reduceIte, va_rf_some, Int.reduceToNat, md_0, md_1, md_2, md_3, md_4, md_5, md_6, md_7, md_8, md_9, md_10, md_11, md_12, md_13, md_14, md_15, md_16, md_17, md_18, md_19, md_20, md_21, md_22, md_23, md_24, md_25, md_26, md_27, md_28, md_29, md_30, md_31, mu_0, mu_3, mu_7, mu_9, mu_12, mu_13, mu_14, mu_15, mu_16, mu_17, mu_18, mu_23, mu_24, mu_26, mu_27, mu_28, mu_29, i10, iI_eq, iI_lt, iI_cl, if_true, if_false, and_self, c, ci, e2]
      · have e2 : (stF X (b + 1)).2.2.2 = (stF X b).2.2.2 := by omega
        simp (disch := first | assumption | omega | exact isB_z | exact isB_o | exact iI_in' (by assumption) (by omega) (by omega) | exact cat_int _ | exact cat_ref _ | exact cat_null | decide) only [↓x_115_53, ↓x_115_54, ↓x_115_55, ↓x_115_56, ↓x_115_59, ↓x_115_60, ↓x_115_63, ↓x_115_64, ↓x_115_65, ↓x_115_68, up1_same, up1_ne, up1_up1, us_0, us_1, us_2, us_3, us_4, us_5, us_6, us_7, us_8, us_9, us_10, us_11, rw_zero, rw_succ, Option.toList_some, Option.toList_none, List.cons_append, List.nil_append, cat_int, cat_ref, cat_null, iI_add, iI_sub, iI_mul, iI_neg, List.length_cons, List.length_nil, ↓reduceIte, va_rf_some, Int.reduceToNat, md_0, md_1, md_2, md_3, md_4, md_5, md_6, md_7, md_8, md_9, md_10, md_11, md_12, md_13, md_14, md_15, md_16, md_17, md_18, md_19, md_20, md_21, md_22, md_23, md_24, md_25, md_26, md_27, md_28, md_29, md_30, md_31, mu_0, mu_3, mu_7, mu_9, mu_12, mu_13, mu_14, mu_15, mu_16, mu_17, mu_18, mu_23, mu_24, mu_26, mu_27, mu_28, mu_29, i10, iI_eq, iI_lt, iI_cl, if_true, if_false, and_self, c, ci, e2]
    rw [x_115_6]
    by_cases c : b = 0
    · subst c
      have e2 : ¬ (0 : Int) < ((0 : Nat) : Int) := by omega
      rw [if_neg (by have : (stF X 0).2.1 = -9 := rfl; omega)] at hr
      simp (disch := first | assumption | omega | exact isB_z | exact isB_o | exact iI_in' (by assumption) (by omega) (by omega) | exact cat_int _ | exact cat_ref _ | exact cat_null | decide) only [↓x_115_7, ↓x_115_9, ↓x_115_10, ↓x_115_13, ↓x_115_14, ↓x_115_15, ↓x_115_16, ↓x_115_19, ↓x_115_20, ↓x_115_23, ↓x_115_24, ↓x_115_27, ↓x_115_29, ↓x_115_30, ↓x_115_31, ↓x_115_32, ↓x_115_33, ↓x_115_36, ↓x_115_38, ↓x_115_39, ↓x_115_40, ↓x_115_41, ↓x_115_42, ↓x_115_43, ↓x_115_46, ↓x_115_47, ↓x_115_48, ↓x_115_49, ↓x_115_52, up1_same, up1_ne, up1_up1, us_0, us_1, us_2, us_3, us_4, us_5, us_6, us_7, us_8, us_9, us_10, us_11, rw_zero, rw_succ, Option.toList_some, Option.toList_none, List.cons_append, List.nil_append, cat_int, cat_ref, cat_null, iI_add, iI_sub, iI_mul, iI_neg, List.length_cons, List.length_nil, ↓reduceIte, va_rf_some, Int.reduceToNat, md_0, md_1, md_2, md_3, md_4, md_5, md_6, md_7, md_8, md_9, md_10, md_11, md_12, md_13, md_14, md_15, md_16, md_17, md_18, md_19, md_20, md_21, md_22, md_23, md_24, md_25, md_26, md_27, md_28, md_29, md_30, md_31, mu_0, mu_3, mu_7, mu_9, mu_12, mu_13, mu_14, mu_15, mu_16, mu_17, mu_18, mu_23, mu_24, mu_26, mu_27, mu_28, mu_29, i10, iI_eq, iI_lt, iI_cl, if_true, if_false, and_self, a0, e, e2]
      exact hgo 1 hr.symm (by omega) (by omega)
    · have e2 : (0 : Int) < (b : Int) := by omega
      have tn3 : (36 + (b : Int) - 1).toNat = 36 + (b - 1) := by omega
      have hbit2 : A 63 (36 + (b - 1)) = iI (btA X.2 ((b - 1 : Nat) : Int)) := hm.h5 (b - 1) (by omega)
      have hbb2 := btA_b X.2 ((b - 1 : Nat) : Int)
      have hlast : (stF X b).2.1 = btA X.2 ((b - 1 : Nat) : Int) := by
        obtain ⟨b', rfl⟩ : ∃ b', b = b' + 1 := ⟨b - 1, by omega⟩
        rfl
      rw [hlast] at hr
      by_cases c2 : btA X.2 b = btA X.2 ((b - 1 : Nat) : Int)
      · rw [if_pos c2] at hr
        simp (disch := first | assumption | omega | exact isB_z | exact isB_o | exact iI_in' (by assumption) (by omega) (by omega) | exact cat_int _ | exact cat_ref _ | exact cat_null | decide) only [↓x_115_7, ↓x_115_9, ↓x_115_10, ↓x_115_13, ↓x_115_14, ↓x_115_15, ↓x_115_16, ↓x_115_19, ↓x_115_20, ↓x_115_23, ↓x_115_24, ↓x_115_27, ↓x_115_29, ↓x_115_30, ↓x_115_31, ↓x_115_32, ↓x_115_33, ↓x_115_36, ↓x_115_38, ↓x_115_39, ↓x_115_40, ↓x_115_41, ↓x_115_42, ↓x_115_43, ↓x_115_46, ↓x_115_47, ↓x_115_48, ↓x_115_49, ↓x_115_52, up1_same, up1_ne, up1_up1, us_0, us_1, us_2, us_3, us_4, us_5, us_6, us_7, us_8, us_9, us_10, us_11, rw_zero, rw_succ, Option.toList_some, Option.toList_none, List.cons_append, List.nil_append, cat_int, cat_ref, cat_null, iI_add, iI_sub, iI_mul, iI_neg, List.length_cons, List.length_nil, ↓reduceIte, va_rf_some, Int.reduceToNat, md_0, md_1, md_2, md_3, md_4, md_5, md_6, md_7, md_8, md_9, md_10, md_11, md_12, md_13, md_14, md_15, md_16, md_17, md_18, md_19, md_20, md_21, md_22, md_23, md_24, md_25, md_26, md_27, md_28, md_29, md_30, md_31, mu_0, mu_3, mu_7, mu_9, mu_12, mu_13, mu_14, mu_15, mu_16, mu_17, mu_18, mu_23, mu_24, mu_26, mu_27, mu_28, mu_29, i10, iI_eq, iI_lt, iI_cl, if_true, if_false, and_self, a0, e, e2, tn2, tn3, hbit, hbit2, c2]
        exact hgo _ hr.symm (by omega) (by omega)
      · rw [if_neg c2] at hr
        simp (disch := first | assumption | omega | exact isB_z | exact isB_o | exact iI_in' (by assumption) (by omega) (by omega) | exact cat_int _ | exact cat_ref _ | exact cat_null | decide) only [↓x_115_7, ↓x_115_9, ↓x_115_10, ↓x_115_13, ↓x_115_14, ↓x_115_15, ↓x_115_16, ↓x_115_19, ↓x_115_20, ↓x_115_23, ↓x_115_24, ↓x_115_27, ↓x_115_29, ↓x_115_30, ↓x_115_31, ↓x_115_32, ↓x_115_33, ↓x_115_36, ↓x_115_38, ↓x_115_39, ↓x_115_40, ↓x_115_41, ↓x_115_42, ↓x_115_43, ↓x_115_46, ↓x_115_47, ↓x_115_48, ↓x_115_49, ↓x_115_52, up1_same, up1_ne, up1_up1, us_0, us_1, us_2, us_3, us_4, us_5, us_6, us_7, us_8, us_9, us_10, us_11, rw_zero, rw_succ, Option.toList_some, Option.toList_none, List.cons_append, List.nil_append, cat_int, cat_ref, cat_null, iI_add, iI_sub, iI_mul, iI_neg, List.length_cons, List.length_nil, ↓reduceIte, va_rf_some, Int.reduceToNat, md_0, md_1, md_2, md_3, md_4, md_5, md_6, md_7, md_8, md_9, md_10, md_11, md_12, md_13, md_14, md_15, md_16, md_17, md_18, md_19, md_20, md_21, md_22, md_23, md_24, md_25, md_26, md_27, md_28, md_29, md_30, md_31, mu_0, mu_3, mu_7, mu_9, mu_12, mu_13, mu_14, mu_15, mu_16, mu_17, mu_18, mu_23, mu_24, mu_26, mu_27, mu_28, mu_29, i10, iI_eq, iI_lt, iI_cl, if_true, if_false, and_self, a0, e, e2, tn2, tn3, hbit, hbit2, c2]
        exact hgo _ hr.symm (by omega) (by omega)
theorem k_longest (hK : mK t) (hX : wf X) (hm : mH (A 63) X) : Call (d + 1) 115 [.ref 62] (t, up1 V 62 (mdR g), A, P) Q = Q (some (.int (iI (stF X (X.1.length * 6)).2.2.2))) (t, up1 V 62 (mdR g), A, P) := by
  simp (disch := first | assumption | omega | exact isB_z | exact isB_o | exact iI_in' (by assumption) (by omega) (by omega) | exact cat_int _ | exact cat_ref _ | exact cat_null | decide) only [c_115, ↓x_115_0, ↓x_115_1, ↓x_115_2, ↓x_115_3, ↓x_115_4, ↓x_115_5, up1_same, up1_ne, up1_up1, us_0, us_1, us_2, us_3, us_4, us_5, us_6, us_7, us_8, us_9, us_10, us_11, rw_zero, rw_succ, Option.toList_some, Option.toList_none, List.cons_append, List.nil_append, cat_int, cat_ref, cat_null, iI_add, iI_sub, iI_mul, iI_neg, List.length_cons, List.length_nil, ↓reduceIte, va_rf_some, Int.reduceToNat, md_0, md_1, md_2, md_3, md_4, md_5, md_6, md_7, md_8, md_9, md_10, md_11, md_12, md_13, md_14, md_15, md_16, md_17, md_18, md_19, md_20, md_21, md_22, md_23, md_24, md_25, md_26, md_27, md_28, md_29, md_30, md_31, mu_0, mu_3, mu_7, mu_9, mu_12, mu_13, mu_14, mu_15, mu_16, mu_17, mu_18, mu_23, mu_24, mu_26, mu_27, mu_28, mu_29]
  exact longest_loop hK hX hm (X.1.length * 6) 0 (by omega)
theorem one_loop (hK : mK t) (hX : wf X) (hm : mH (A 63) X) : ∀ (n b : Nat), b + n = X.1.length * 6 → Ev d 126 4 [.ref 62, .int (iI (onF X b)), .int (iI b)] [] (t, up1 V 62 (mdR g), A, P) Q = Q (some (.int (iI (onF X (6 * X.1.length))))) (t, up1 V 62 (mdR g), A, P) := by
  obtain ⟨m0, ⟨m1, l1⟩, ⟨m2, l2⟩, ⟨m3, l3⟩, ⟨m4, l4⟩, ⟨m5, l5⟩, ⟨m6, l6⟩, ⟨m7, l7⟩, ⟨m8, l8⟩, ⟨m9, l9⟩, ⟨m10, l10⟩, ⟨m11, l11⟩, ⟨m12, l12⟩, ⟨m13, l13⟩, ⟨m14, l14⟩, m15, l15⟩ := hK
  have hl := hX.1
  have a0 := hm.h0
  intro n
  induction n with
  | zero =>
    intro b hb
    have hb' : 6 * X.1.length = b := by omega
    rw [hb']
    have e : ¬ (b : Int) < 6 * (X.1.length : Int) := by omega
    rw [x_126_4]
    simp (disch := first | assumption | omega | exact isB_z | exact isB_o | exact iI_in' (by assumption) (by omega) (by omega) | exact cat_int _ | exact cat_ref _ | exact cat_null | decide) only [↓x_126_5, ↓x_126_7, ↓x_126_8, ↓x_126_11, ↓x_126_12, ↓x_126_13, ↓x_126_14, ↓x_126_35, ↓x_126_36, up1_same, up1_ne, up1_up1, us_0, us_1, us_2, us_3, us_4, us_5, us_6, us_7, us_8, us_9, us_10, us_11, rw_zero, rw_succ, Option.toList_some, Option.toList_none, List.cons_append, List.nil_append, cat_int, cat_ref, cat_null, iI_add, iI_sub, iI_mul, iI_neg, List.length_cons, List.length_nil, ↓reduceIte, va_rf_some, Int.reduceToNat, md_0, md_1, md_2, md_3, md_4, md_5, md_6, md_7, md_8, md_9, md_10, md_11, md_12, md_13, md_14, md_15, md_16, md_17, md_18, md_19, md_20, md_21, md_22, md_23, md_24, md_25, md_26, md_27, md_28, md_29, md_30, md_31, mu_0, mu_3, mu_7, mu_9, mu_12, mu_13, mu_14, mu_15, mu_16, mu_17, mu_18, mu_23, mu_24, mu_26, mu_27, mu_28, mu_29, i10, iI_eq, iI_lt, iI_cl, if_true, if_false, and_self, a0, e]
  | succ n ih =>
    intro b hb
    have e : (b : Int) < 6 * (X.1.length : Int) := by omega
    have tn2 : (36 + (b : Int)).toNat = 36 + b := by omega
    have ci : (b : Int) + 1 = ((b + 1 : Nat) : Int) := by omega
    have hbit : A 63 (36 + b) = iI (btA X.2 b) := hm.h5 b (by omega)
    rw [← ih (b + 1) (by omega), x_126_4]
    simp (disch := first | assumption | omega | exact isB_z | exact isB_o | exact iI_in' (by assumption) (by omega) (by omega) | exact cat_int _ | exact cat_ref _ | exact cat_null | decide) only [↓x_126_5, ↓x_126_7, ↓x_126_8, ↓x_126_11, ↓x_126_12, ↓x_126_13, ↓x_126_14, ↓x_126_17, ↓x_126_18, ↓x_126_19, ↓x_126_22, ↓x_126_24, ↓x_126_25, ↓x_126_26, ↓x_126_27, ↓x_126_28, ↓x_126_29, ↓x_126_32, up1_same, up1_ne, up1_up1, us_0, us_1, us_2, us_3, us_4, us_5, us_6, us_7, us_8, us_9, us_10, us_11, rw_zero, rw_succ, Option.toList_some, Option.toList_none, List.cons_append, List.nil_append, cat_int, cat_ref, cat_null, iI_add, iI_sub, iI_mul, iI_neg, List.length_cons, List.length_nil, ↓reduceIte, va_rf_some, Int.reduceToNat, md_0, md_1, md_2, md_3, md_4, md_5, md_6, md_7, md_8, md_9, md_10, md_11, md_12, md_13, md_14, md_15, md_16, md_17, md_18, md_19, md_20, md_21, md_22, md_23, md_24, md_25, md_26, md_27, md_28, md_29, md_30, md_31, mu_0, mu_3, mu_7, mu_9, mu_12, mu_13, mu_14, mu_15, mu_16, mu_17, mu_18, mu_23, mu_24, mu_26, mu_27, mu_28, mu_29, i10, iI_eq, iI_lt, iI_cl, if_true, if_false, and_self, a0, e, tn2, hbit, ci]
    rfl
theorem k_oneMany (hK : mK t) (hX : wf X) (hm : mH (A 63) X) : Call (d + 1) 126 [.ref 62] (t, up1 V 62 (mdR g), A, P) Q = Q (some (.int (iI (sumI (fun i => pcI (X.2.getD i.toNat 0)) 0 X.1.length)))) (t, up1 V 62 (mdR g), A, P) := by
  simp (disch := first | assumption | omega | exact isB_z | exact isB_o | exact iI_in' (by assumption) (by omega) (by omega) | exact cat_int _ | exact cat_ref _ | exact cat_null | decide) only [c_126, ↓x_126_0, ↓x_126_1, ↓x_126_2, ↓x_126_3, up1_same, up1_ne, up1_up1, us_0, us_1, us_2, us_3, us_4, us_5, us_6, us_7, us_8, us_9, us_10, us_11, rw_zero, rw_succ, Option.toList_some, Option.toList_none, List.cons_append, List.nil_append, cat_int, cat_ref, cat_null, iI_add, iI_sub, iI_mul, iI_neg, List.length_cons, List.length_nil, ↓reduceIte, va_rf_some, Int.reduceToNat, md_0, md_1, md_2, md_3, md_4, md_5, md_6, md_7, md_8, md_9, md_10, md_11, md_12, md_13, md_14, md_15, md_16, md_17, md_18, md_19, md_20, md_21, md_22, md_23, md_24, md_25, md_26, md_27, md_28, md_29, md_30, md_31, mu_0, mu_3, mu_7, mu_9, mu_12, mu_13, mu_14, mu_15, mu_16, mu_17, mu_18, mu_23, mu_24, mu_26, mu_27, mu_28, mu_29]
  rw [← onF_sum hX X.1.length (Nat.le_refl _)]
  exact one_loop hK hX hm (X.1.length * 6) 0 (by omega)
theorem mark_loop (hK : mK t) (hX : wf X) (hm : mH (A 63) X) : ∀ (m w : Nat) (acc : Int), w + m = X.1.length → Ev d 127 4 [.ref 62, .int (iI acc), .int (iI w)] [] (t, up1 V 62 (mdR g), A, P) Q = Q (some (.int (iI (acc + sumI (fun i => if 31 ≤ X.1.getD i.toNat 0 then 1 else 0) w m)))) (t, up1 V 62 (mdR g), A, P) := by
  obtain ⟨m0, ⟨m1, l1⟩, ⟨m2, l2⟩, ⟨m3, l3⟩, ⟨m4, l4⟩, ⟨m5, l5⟩, ⟨m6, l6⟩, ⟨m7, l7⟩, ⟨m8, l8⟩, ⟨m9, l9⟩, ⟨m10, l10⟩, ⟨m11, l11⟩, ⟨m12, l12⟩, ⟨m13, l13⟩, ⟨m14, l14⟩, m15, l15⟩ := hK
  have hl := hX.1
  have a0 := hm.h0
  intro m
  induction m with
  | zero =>
    intro w acc hw
    have e : ¬ (w : Int) < (X.1.length : Int) := by omega
    rw [x_127_4]
    simp (disch := first | assumption | omega | exact isB_z | exact isB_o | exact iI_in' (by assumption) (by omega) (by omega) | exact cat_int _ | exact cat_ref _ | exact cat_null | decide) only [↓x_127_5, ↓x_127_6, ↓x_127_9, ↓x_127_10, ↓x_127_11, ↓x_127_41, ↓x_127_42, up1_same, up1_ne, up1_up1, us_0, us_1, us_2, us_3, us_4, us_5, us_6, us_7, us_8, us_9, us_10, us_11, rw_zero, rw_succ, Option.toList_some, Option.toList_none, List.cons_append, List.nil_append, cat_int, cat_ref, cat_null, iI_add, iI_sub, iI_mul, iI_neg, List.length_cons, List.length_nil, ↓reduceIte, va_rf_some, Int.reduceToNat, md_0, md_1, md_2, md_3, md_4, md_5, md_6, md_7, md_8, md_9, md_10, md_11, md_12, md_13, md_14, md_15, md_16, md_17, md_18, md_19, md_20, md_21, md_22, md_23, md_24, md_25, md_26, md_27, md_28, md_29, md_30, md_31, mu_0, mu_3, mu_7, mu_9, mu_12, mu_13, mu_14, mu_15, mu_16, mu_17, mu_18, mu_23, mu_24, mu_26, mu_27, mu_28, mu_29, i10, iI_eq, iI_lt, iI_cl, if_true, if_false, and_self, a0, e, sumI, Int.add_zero]
  | succ m ih =>
    intro w acc hw
    have e : (w : Int) < (X.1.length : Int) := by omega
    have tn2 : (4 + (w : Int)).toNat = 4 + w := by omega
    have tn1 : ((w : Nat) : Int).toNat = w := Int.toNat_natCast _
    have ci : (w : Int) + 1 = ((w + 1 : Nat) : Int) := by omega
    have hk : A 63 (4 + w) = iI (X.1.getD w 0) := hm.h4 w (by omega)
    have hkb := hX.2.2.1 w (by omega)
    rw [x_127_4]
    by_cases c : 30 < X.1.getD w 0
    · have c' : 31 ≤ X.1.getD w 0 := by omega
      simp (disch := first | assumption | omega | exact isB_z | exact isB_o | exact iI_in' (by assumption) (by omega) (by omega) | exact cat_int _ | exact cat_ref _ | exact cat_null | decide) only [↓x_127_5, ↓x_127_6, ↓x_127_9, ↓x_127_10, ↓x_127_11, ↓x_127_14, ↓x_127_15, ↓x_127_16, ↓x_127_19, ↓x_127_20, ↓x_127_21, ↓x_127_22, ↓x_127_23, ↓x_127_25, ↓x_127_28, ↓x_127_29, ↓x_127_32, ↓x_127_33, ↓x_127_34, ↓x_127_35, ↓x_127_38, up1_same, up1_ne, up1_up1, us_0, us_1, us_2, us_3, us_4, us_5, us_6, us_7, us_8, us_9, us_10, us_11, rw_zero, rw_succ, Option.toList_some, Option.toList_none, List.cons_append, List.nil_append, cat_int, cat_ref, cat_null, iI_add, iI_sub, iI_mul, iI_neg, List.length_cons, List.length_nil, ↓reduceIte, va_rf_some, Int.reduceToNat, md_0, md_1, md_2, md_3, md_4, md_5, md_6, md_7, md_8, md_9, md_10, md_11, md_12, md_13, md_14, md_15, md_16, md_17, md_18, md_19, md_20, md_21, md_22, md_23, md_24, md_25, md_26, md_27, md_28, md_29, md_30, md_31, mu_0, mu_3, mu_7, mu_9, mu_12, mu_13, mu_14, mu_15, mu_16, mu_17, mu_18, mu_23, mu_24, mu_26, mu_27, mu_28, mu_29, i10, iI_eq, iI_lt, iI_cl, if_true, if_false, and_self, a0, e, tn2, hk, c, ci]
      rw [ih (w + 1) _ (by omega)]
      simp only [sumI, tn1, if_pos c', ← ci, Int.add_assoc]
    · have c' : ¬ 31 ≤ X.1.getD w 0 := by omega
      simp (disch := first | assumption | omega | exact isB_z | exact isB_o | exact iI_in' (by assumption) (by omega) (by omega) | exact cat_int _ | exact cat_ref _ | exact cat_null | decide) only [↓x_127_5, ↓x_127_6, ↓x_127_9, ↓x_127_10, ↓x_127_11, ↓x_127_14, ↓x_127_15, ↓x_127_16, ↓x_127_19, ↓x_127_20, ↓x_127_21, ↓x_127_22, ↓x_127_23, ↓x_127_25, ↓x_127_28, ↓x_127_29, ↓x_127_32, ↓x_127_33, ↓x_127_34, ↓x_127_35, ↓x_127_38, up1_same, up1_ne, up1_up1, us_0, us_1, us_2, us_3, us_4, us_5, us_6, us_7, us_8, us_9, us_10, us_11, rw_zero, rw_succ, Option.toList_some, Option.toList_none, List.cons_append, List.nil_append, cat_int, cat_ref, cat_null, iI_add, iI_sub, iI_mul, iI_neg, List.length_cons, List.length_nil, ↓reduceIte, va_rf_some, Int.reduceToNat, md_0, md_1, md_2, md_3, md_4, md_5, md_6, md_7, md_8, md_9, md_10, md_11, md_12, md_13, md_14, md_15, md_16, md_17, md_18, md_19, md_20, md_21, md_22, md_23, md_24, md_25, md_26, md_27, md_28, md_29, md_30, md_31, mu_0, mu_3, mu_7, mu_9, mu_12, mu_13, mu_14, mu_15, mu_16, mu_17, mu_18, mu_23, mu_24, mu_26, mu_27, mu_28, mu_29, i10, iI_eq, iI_lt, iI_cl, if_true, if_false, and_self, a0, e, tn2, hk, c, ci]
      rw [ih (w + 1) _ (by omega)]
      simp only [sumI, tn1, if_neg c', ← ci, Int.add_assoc]
theorem k_markMany (hK : mK t) (hX : wf X) (hm : mH (A 63) X) : Call (d + 1) 127 [.ref 62] (t, up1 V 62 (mdR g), A, P) Q = Q (some (.int (iI (sumI (fun i => if 31 ≤ X.1.getD i.toNat 0 then 1 else 0) 0 X.1.length)))) (t, up1 V 62 (mdR g), A, P) := by
  simp (disch := first | assumption | omega | exact isB_z | exact isB_o | exact iI_in' (by assumption) (by omega) (by omega) | exact cat_int _ | exact cat_ref _ | exact cat_null | decide) only [c_127, ↓x_127_0, ↓x_127_1, ↓x_127_2, ↓x_127_3, up1_same, up1_ne, up1_up1, us_0, us_1, us_2, us_3, us_4, us_5, us_6, us_7, us_8, us_9, us_10, us_11, rw_zero, rw_succ, Option.toList_some, Option.toList_none, List.cons_append, List.nil_append, cat_int, cat_ref, cat_null, iI_add, iI_sub, iI_mul, iI_neg, List.length_cons, List.length_nil, ↓reduceIte, va_rf_some, Int.reduceToNat, md_0, md_1, md_2, md_3, md_4, md_5, md_6, md_7, md_8, md_9, md_10, md_11, md_12, md_13, md_14, md_15, md_16, md_17, md_18, md_19, md_20, md_21, md_22, md_23, md_24, md_25, md_26, md_27, md_28, md_29, md_30, md_31, mu_0, mu_3, mu_7, mu_9, mu_12, mu_13, mu_14, mu_15, mu_16, mu_17, mu_18, mu_23, mu_24, mu_26, mu_27, mu_28, mu_29]
  have := mark_loop (d := d) (P := P) (V := V) (g := g) (Q := Q) hK hX hm X.1.length 0 0 (by omega)
  rw [Int.zero_add] at this
  exact this
theorem turned_in {v a acc : Int} {w : Nat} (hK : mK t) (hw : w < 32) (v0 : 0 ≤ v ∧ v < 64) (hb : ∀ j : Nat, j < 6 → A 63 (36 + 6 * w + j) = iI (a / 2 ^ (5 - j) % 2)) (hacc : 0 ≤ acc ∧ acc ≤ 1000) : ∀ (n j : Nat), j + n = 6 → Ev d 125 46 [.ref 62, .int (iI (acc + dfS a v j)), .int (iI w), .int (iI v), .int (iI j)] [] (t, up1 V 62 (mdR g), A, P) Q = Ev d 125 93 [.ref 62, .int (iI (acc + dfS a v 6)), .int (iI w), .int (iI v), .int (iI 6)] [] (t, up1 V 62 (mdR g), A, P) Q := by
  obtain ⟨m0, ⟨m1, l1⟩, ⟨m2, l2⟩, ⟨m3, l3⟩, ⟨m4, l4⟩, ⟨m5, l5⟩, ⟨m6, l6⟩, ⟨m7, l7⟩, ⟨m8, l8⟩, ⟨m9, l9⟩, ⟨m10, l10⟩, ⟨m11, l11⟩, ⟨m12, l12⟩, ⟨m13, l13⟩, ⟨m14, l14⟩, m15, l15⟩ := hK
  intro n
  induction n with
  | zero =>
    intro j hj
    have : j = 6 := by omega
    subst this
    rw [x_125_46]
    simp (disch := first | assumption | omega | exact isB_z | exact isB_o | exact iI_in' (by assumption) (by omega) (by omega) | exact cat_int _ | exact cat_ref _ | exact cat_null | decide) only [↓x_125_48, ↓x_125_50, up1_same, up1_ne, up1_up1, us_0, us_1, us_2, us_3, us_4, us_5, us_6, us_7, us_8, us_9, us_10, us_11, rw_zero, rw_succ, Option.toList_some, Option.toList_none, List.cons_append, List.nil_append, cat_int, cat_ref, cat_null, iI_add, iI_sub, iI_mul, iI_neg, List.length_cons, List.length_nil, ↓reduceIte, va_rf_some, Int.reduceToNat, md_0, md_1, md_2, md_3, md_4, md_5, md_6, md_7, md_8, md_9, md_10, md_11, md_12, md_13, md_14, md_15, md_16, md_17, md_18, md_19, md_20, md_21, md_22, md_23, md_24, md_25, md_26, md_27, md_28, md_29, md_30, md_31, mu_0, mu_3, mu_7, mu_9, mu_12, mu_13, mu_14, mu_15, mu_16, mu_17, mu_18, mu_23, mu_24, mu_26, mu_27, mu_28, mu_29, iI_lt]
    simp
  | succ n ih =>
    intro j hj
    have e : (j : Int) < 6 := by omega
    have tn2 : (36 + 6 * (w : Int) + (j : Int)).toNat = 36 + 6 * w + j := by omega
    have ci : (j : Int) + 1 = ((j + 1 : Nat) : Int) := by omega
    have hbj := hb j (by omega)
    have hsh := sh_6 v0.1 v0.2 (j := 5 - (j : Int)) (by omega) (by omega)
    have e5 : (5 - (j : Int)).toNat = 5 - j := by omega
    rw [e5] at hsh
    have hd := dfS_b a v j
    have es : dfS a v (j + 1) = dfS a v j + df1 a v (5 - j) := rfl
    unfold df1 at es
    rw [← ih (j + 1) (by omega), x_125_46]
    by_cases c : a / 2 ^ (5 - j) % 2 = v / 2 ^ (5 - j) % 2
    · rw [if_pos c] at es
      have es2 : acc + dfS a v (j + 1) = acc + dfS a v j + 0 := by rw [es, Int.add_assoc]
      simp (disch := first | assumption | omega | exact isB_z | exact isB_o | exact iI_in' (by assumption) (by omega) (by omega) | exact cat_int _ | exact cat_ref _ | exact cat_null | decide) only [↓x_125_48, ↓x_125_50, ↓x_125_53, ↓x_125_54, ↓x_125_55, ↓x_125_58, ↓x_125_60, ↓x_125_62, ↓x_125_63, ↓x_125_64, ↓x_125_65, ↓x_125_67, ↓x_125_68, ↓x_125_69, ↓x_125_70, ↓x_125_71, ↓x_125_73, ↓x_125_74, ↓x_125_75, ↓x_125_76, ↓x_125_77, ↓x_125_80, ↓x_125_81, ↓x_125_84, ↓x_125_85, ↓x_125_86, ↓x_125_87, ↓x_125_90, up1_same, up1_ne, up1_up1, us_0, us_1, us_2, us_3, us_4, us_5, us_6, us_7, us_8, us_9, us_10, us_11, rw_zero, rw_succ, Option.toList_some, Option.toList_none, List.cons_append, List.nil_append, cat_int, cat_ref, cat_null, iI_add, iI_sub, iI_mul, iI_neg, List.length_cons, List.length_nil, ↓reduceIte, va_rf_some, Int.reduceToNat, md_0, md_1, md_2, md_3, md_4, md_5, md_6, md_7, md_8, md_9, md_10, md_11, md_12, md_13, md_14, md_15, md_16, md_17, md_18, md_19, md_20, md_21, md_22, md_23, md_24, md_25, md_26, md_27, md_28, md_29, md_30, md_31, mu_0, mu_3, mu_7, mu_9, mu_12, mu_13, mu_14, mu_15, mu_16, mu_17, mu_18, mu_23, mu_24, mu_26, mu_27, mu_28, mu_29, i10, iI_eq, iI_lt, iI_cl, if_true, if_false, and_self, e, tn2, ci, hbj, hsh, c, es2]
    · rw [if_neg c] at es
      have es2 : acc + dfS a v (j + 1) = acc + dfS a v j + 1 := by rw [es, Int.add_assoc]
      simp (disch := first | assumption | omega | exact isB_z | exact isB_o | exact iI_in' (by assumption) (by omega) (by omega) | exact cat_int _ | exact cat_ref _ | exact cat_null | decide) only [↓x_125_48, ↓x_125_50, ↓x_125_53, ↓x_125_54, ↓x_125_55, ↓x_125_58, ↓x_125_60, ↓x_125_62, ↓x_125_63, ↓x_125_64, ↓x_125_65, ↓x_125_67, ↓x_125_68, ↓x_125_69, ↓x_125_70, ↓x_125_71, ↓x_125_73, ↓x_125_74, ↓x_125_75, ↓x_125_76, ↓x_125_77, ↓x_125_80, ↓x_125_81, ↓x_125_84, ↓x_125_85, ↓x_125_86, ↓x_125_87, ↓x_125_90, up1_same, up1_ne, up1_up1, us_0, us_1, us_2, us_3, us_4, us_5, us_6, us_7, us_8, us_9, us_10, us_11, rw_zero, rw_succ, Option.toList_some, Option.toList_none, List.cons_append, List.nil_append, cat_int, cat_ref, cat_null, iI_add, iI_sub, iI_mul, iI_neg, List.length_cons, List.length_nil, ↓reduceIte, va_rf_some, Int.reduceToNat, md_0, md_1, md_2, md_3, md_4, md_5, md_6, md_7, md_8, md_9, md_10, md_11, md_12, md_13, md_14, md_15, md_16, md_17, md_18, md_19, md_20, md_21, md_22, md_23, md_24, md_25, md_26, md_27, md_28, md_29, md_30, md_31, mu_0, mu_3, mu_7, mu_9, mu_12, mu_13, mu_14, mu_15, mu_16, mu_17, mu_18, mu_23, mu_24, mu_26, mu_27, mu_28, mu_29, i10, iI_eq, iI_lt, iI_cl, if_true, if_false, and_self, e, tn2, ci, hbj, hsh, c, es2]
theorem turned_lp {g0 : Nat → Int} (hK : mK t) (hX : wf X) (hm : mH (A 63) X) (hQ : ∀ g' : Nat → Int, (∀ k, k ≠ 26 → g' k = g0 k) → Q (some (.int (iI (sumI (fun i => dfI (X.2.getD i.toNat 0) ((snt X.1).getD i.toNat 0)) 0 X.1.length)))) (t, up1 V 62 (mdR g'), A, P)) : ∀ (m w : Nat) (g : Nat → Int) (a3 a4 : Value), w + m = X.1.length → (∀ k, k ≠ 26 → g k = g0 k) → g 26 = (wkG (sntG X) (-1) w).1 → a3.category = 1 → a4.category = 1 → Ev (d + 3) 125 9 [.ref 62, .int (iI (sumI (fun i => dfI (X.2.getD i.toNat 0) ((snt X.1).getD i.toNat 0)) 0 w)), .int (iI w), a3, a4] [] (t, up1 V 62 (mdR g), A, P) Q := by
  have hK' := hK
  obtain ⟨m0, ⟨m1, l1⟩, ⟨m2, l2⟩, ⟨m3, l3⟩, ⟨m4, l4⟩, ⟨m5, l5⟩, ⟨m6, l6⟩, ⟨m7, l7⟩, ⟨m8, l8⟩, ⟨m9, l9⟩, ⟨m10, l10⟩, ⟨m11, l11⟩, ⟨m12, l12⟩, ⟨m13, l13⟩, ⟨m14, l14⟩, m15, l15⟩ := hK
  have hl := hX.1
  have a0 := hm.h0
  intro m
  induction m with
  | zero =>
    intro w g a3 a4 hw hg h26 x3 x4
    have hw' : w = X.1.length := by omega
    have e : ¬ (w : Int) < (X.1.length : Int) := by omega
    rw [x_125_9]
    simp (disch := first | assumption | omega | exact isB_z | exact isB_o | exact iI_in' (by assumption) (by omega) (by omega) | exact cat_int _ | exact cat_ref _ | exact cat_null | decide) only [↓x_125_10, ↓x_125_11, ↓x_125_14, ↓x_125_15, ↓x_125_16, ↓x_125_123, ↓x_125_124, up1_same, up1_ne, up1_up1, us_0, us_1, us_2, us_3, us_4, us_5, us_6, us_7, us_8, us_9, us_10, us_11, rw_zero, rw_succ, Option.toList_some, Option.toList_none, List.cons_append, List.nil_append, cat_int, cat_ref, cat_null, iI_add, iI_sub, iI_mul, iI_neg, List.length_cons, List.length_nil, ↓reduceIte, va_rf_some, Int.reduceToNat, md_0, md_1, md_2, md_3, md_4, md_5, md_6, md_7, md_8, md_9, md_10, md_11, md_12, md_13, md_14, md_15, md_16, md_17, md_18, md_19, md_20, md_21, md_22, md_23, md_24, md_25, md_26, md_27, md_28, md_29, md_30, md_31, mu_0, mu_3, mu_7, mu_9, mu_12, mu_13, mu_14, mu_15, mu_16, mu_17, mu_18, mu_23, mu_24, mu_26, mu_27, mu_28, mu_29, i10, iI_eq, iI_lt, iI_cl, if_true, if_false, and_self, a0, e]
    rw [hw']
    exact hQ g hg
  | succ m ih =>
    intro w g a3 a4 hw hg h26 x3 x4
    have e : (w : Int) < (X.1.length : Int) := by omega
    have tn2 : (4 + (w : Int)).toNat = 4 + w := by omega
    have tn1 : ((w : Nat) : Int).toNat = w := Int.toNat_natCast _
    have ci : (w : Int) + 1 = ((w + 1 : Nat) : Int) := by omega
    have hk : A 63 (4 + w) = iI (X.1.getD w 0) := hm.h4 w (by omega)
    have hkb := hX.2.2.1 w (by omega)
    have hv := hX.2.2.2 w (by omega)
    have hs := wkG_s (sntG X) (Or.inl rfl : (-1 : Int) = -1 ∨ (-1 : Int) = 1) w
    have hsn := snt_wk X w (by omega)
    have hsb := snt_b hX w (by omega)
    have hsB := sB_D hkb.1 hkb.2 hs
    have hnx : (wkG (sntG X) (-1) (w + 1)).1 = sB (sntG X w) (wkG (sntG X) (-1) w).1 := rfl
    have hD := fO_D (k := X.1.getD w 0) hs
    rw [hsn] at hD hsB
    have hsb' : 0 ≤ sntG X w ∧ sntG X w < 64 := hsb
    have hp := pc_b hsb'.1 hsb'.2
    have hbits : ∀ j : Nat, j < 6 → A 63 (36 + 6 * w + j) = iI (X.2.getD w 0 / 2 ^ (5 - j) % 2) := fun j hj => by
      have := hm.h5 (6 * w + j) (by omega)
      rw [btA_w _ _ _ hj, show 36 + (6 * w + j) = 36 + 6 * w + j by omega] at this
      exact this
    have hsl : sumI (fun i => dfI (X.2.getD i.toNat 0) ((snt X.1).getD i.toNat 0)) 0 (w + 1) = sumI (fun i => dfI (X.2.getD i.toNat 0) ((snt X.1).getD i.toNat 0)) 0 w + dfS (X.2.getD w 0) (sntG X w) 6 := by
      rw [sumI_last, show (0 : Int) + (w : Int) = w by omega, Int.toNat_natCast, dfS_6 hv.1 hv.2 hsb'.1 hsb'.2]
      rfl
    have hsbd : ∀ n : Nat, n ≤ w → 0 ≤ sumI (fun i => dfI (X.2.getD i.toNat 0) ((snt X.1).getD i.toNat 0)) 0 n ∧ sumI (fun i => dfI (X.2.getD i.toNat 0) ((snt X.1).getD i.toNat 0)) 0 n ≤ 6 * n := by
      intro n
      induction n with
      | zero => intro _; simp [sumI]
      | succ n ihn =>
        intro hn
        have h1 := ihn (by omega)
        have hvn := hX.2.2.2 n (by omega)
        have hsn2 := snt_b hX n (by omega)
        have h2 := dfS_b (X.2.getD n 0) ((snt X.1).getD n 0) 6
        rw [dfS_6 hvn.1 hvn.2 hsn2.1 hsn2.2] at h2
        rw [sumI_last, show (0 : Int) + (n : Int) = n by omega, Int.toNat_natCast]
        omega
    have hacc := hsbd w (Nat.le_refl _)
    clear hsbd
    have ih' := ih (w + 1)
    rw [hsl] at ih'
    clear hsl
    generalize sumI (fun i => dfI (X.2.getD i.toNat 0) ((snt X.1).getD i.toNat 0)) 0 w = acc at *
    have hform : Ev (d + 3) 125 9 [.ref 62, .int (iI acc), .int (iI w), a3, a4] [] (t, up1 V 62 (mdR g), A, P) Q = Ev (d + 3) 125 42 [.ref 62, .int (iI acc), .int (iI w), a3, a4] [.int (iI (sntG X w))] (t, up1 V 62 (mdR g), A, P) Q := by
      rw [x_125_9]
      by_cases c : (wkG (sntG X) (-1) w).1 < 0
      · rw [if_pos c] at hD
        simp (disch := first | assumption | omega | exact isB_z | exact isB_o | exact iI_in' (by assumption) (by omega) (by omega) | exact cat_int _ | exact cat_ref _ | exact cat_null | decide) only [↓x_125_10, ↓x_125_11, ↓x_125_14, ↓x_125_15, ↓x_125_16, ↓x_125_19, ↓x_125_20, ↓x_125_23, ↓x_125_24, ↓x_125_25, ↓x_125_26, ↓x_125_27, ↓x_125_28, ↓x_125_31, ↓x_125_34, ↓x_125_35, ↓x_125_38, ↓x_125_39, up1_same, up1_ne, up1_up1, us_0, us_1, us_2, us_3, us_4, us_5, us_6, us_7, us_8, us_9, us_10, us_11, rw_zero, rw_succ, Option.toList_some, Option.toList_none, List.cons_append, List.nil_append, cat_int, cat_ref, cat_null, iI_add, iI_sub, iI_mul, iI_neg, List.length_cons, List.length_nil, ↓reduceIte, va_rf_some, Int.reduceToNat, md_0, md_1, md_2, md_3, md_4, md_5, md_6, md_7, md_8, md_9, md_10, md_11, md_12, md_13, md_14, md_15, md_16, md_17, md_18, md_19, md_20, md_21, md_22, md_23, md_24, md_25, md_26, md_27, md_28, md_29, md_30, md_31, mu_0, mu_3, mu_7, mu_9, mu_12, mu_13, mu_14, mu_15, mu_16, mu_17, mu_18, mu_23, mu_24, mu_26, mu_27, mu_28, mu_29, i10, iI_eq, iI_lt, iI_cl, if_true, if_false, and_self, a0, e, tn2, hk, h26, c, k_formOf hkb.1 hkb.2, hD]
      · rw [if_neg c] at hD
        simp (disch := first | assumption | omega | exact isB_z | exact isB_o | exact iI_in' (by assumption) (by omega) (by omega) | exact cat_int _ | exact cat_ref _ | exact cat_null | decide) only [↓x_125_10, ↓x_125_11, ↓x_125_14, ↓x_125_15, ↓x_125_16, ↓x_125_19, ↓x_125_20, ↓x_125_23, ↓x_125_24, ↓x_125_25, ↓x_125_26, ↓x_125_27, ↓x_125_28, ↓x_125_31, ↓x_125_34, ↓x_125_35, ↓x_125_38, ↓x_125_39, up1_same, up1_ne, up1_up1, us_0, us_1, us_2, us_3, us_4, us_5, us_6, us_7, us_8, us_9, us_10, us_11, rw_zero, rw_succ, Option.toList_some, Option.toList_none, List.cons_append, List.nil_append, cat_int, cat_ref, cat_null, iI_add, iI_sub, iI_mul, iI_neg, List.length_cons, List.length_nil, ↓reduceIte, va_rf_some, Int.reduceToNat, md_0, md_1, md_2, md_3, md_4, md_5, md_6, md_7, md_8, md_9, md_10, md_11, md_12, md_13, md_14, md_15, md_16, md_17, md_18, md_19, md_20, md_21, md_22, md_23, md_24, md_25, md_26, md_27, md_28, md_29, md_30, md_31, mu_0, mu_3, mu_7, mu_9, mu_12, mu_13, mu_14, mu_15, mu_16, mu_17, mu_18, mu_23, mu_24, mu_26, mu_27, mu_28, mu_29, i10, iI_eq, iI_lt, iI_cl, if_true, if_false, and_self, a0, e, tn2, hk, h26, c, k_formOf hkb.1 hkb.2 (Or.inr rfl), hD]
    rw [hform]
    clear hform
    have hin := turned_in (d := d + 3) (P := P) (V := V) (Q := Q) (g := g) (w := w) (acc := acc) hK' (by omega) hsb' hbits (by omega) 6 0 (by omega)
    rw [show dfS (X.2.getD w 0) (sntG X w) 0 = 0 from rfl, Int.add_zero] at hin
    simp (disch := first | assumption | omega | exact isB_z | exact isB_o | exact iI_in' (by assumption) (by omega) (by omega) | exact cat_int _ | exact cat_ref _ | exact cat_null | decide) only [↓x_125_42, ↓x_125_43, ↓x_125_44, up1_same, up1_ne, up1_up1, us_0, us_1, us_2, us_3, us_4, us_5, us_6, us_7, us_8, us_9, us_10, us_11, rw_zero, rw_succ, Option.toList_some, Option.toList_none, List.cons_append, List.nil_append, cat_int, cat_ref, cat_null, iI_add, iI_sub, iI_mul, iI_neg, List.length_cons, List.length_nil, ↓reduceIte, va_rf_some, Int.reduceToNat, md_0, md_1, md_2, md_3, md_4, md_5, md_6, md_7, md_8, md_9, md_10, md_11, md_12, md_13, md_14, md_15, md_16, md_17, md_18, md_19, md_20, md_21, md_22, md_23, md_24, md_25, md_26, md_27, md_28, md_29, md_30, md_31, mu_0, mu_3, mu_7, mu_9, mu_12, mu_13, mu_14, mu_15, mu_16, mu_17, mu_18, mu_23, mu_24, mu_26, mu_27, mu_28, mu_29]
    rw [show (iI 0 : Int32) = iI ((0 : Nat) : Int) from rfl, hin]
    clear hin
    have hdb := dfS_b (X.2.getD w 0) (sntG X w) 6
    generalize acc + dfS (X.2.getD w 0) (sntG X w) 6 = acc2 at *
    simp (disch := first | assumption | omega | exact isB_z | exact isB_o | exact iI_in' (by assumption) (by omega) (by omega) | exact cat_int _ | exact cat_ref _ | exact cat_null | decide) only [↓x_125_93, ↓x_125_94, ↓x_125_95, ↓x_125_98, ↓x_125_99, up1_same, up1_ne, up1_up1, us_0, us_1, us_2, us_3, us_4, us_5, us_6, us_7, us_8, us_9, us_10, us_11, rw_zero, rw_succ, Option.toList_some, Option.toList_none, List.cons_append, List.nil_append, cat_int, cat_ref, cat_null, iI_add, iI_sub, iI_mul, iI_neg, List.length_cons, List.length_nil, ↓reduceIte, va_rf_some, Int.reduceToNat, md_0, md_1, md_2, md_3, md_4, md_5, md_6, md_7, md_8, md_9, md_10, md_11, md_12, md_13, md_14, md_15, md_16, md_17, md_18, md_19, md_20, md_21, md_22, md_23, md_24, md_25, md_26, md_27, md_28, md_29, md_30, md_31, mu_0, mu_3, mu_7, mu_9, mu_12, mu_13, mu_14, mu_15, mu_16, mu_17, mu_18, mu_23, mu_24, mu_26, mu_27, mu_28, mu_29, i10, iI_eq, iI_lt, iI_cl, if_true, if_false, and_self, k_onesM hsb'.1 hsb'.2]
    by_cases c : pcI (sntG X w) = 3
    · rw [if_pos c] at hsB
      rw [if_pos c]
      simp (disch := first | assumption | omega | exact isB_z | exact isB_o | exact iI_in' (by assumption) (by omega) (by omega) | exact cat_int _ | exact cat_ref _ | exact cat_null | decide) only [↓x_125_102, ↓x_125_103, ↓x_125_106, ↓x_125_109, ↓x_125_110, ↓x_125_113, ↓x_125_114, ↓x_125_117, ↓x_125_120, up1_same, up1_ne, up1_up1, us_0, us_1, us_2, us_3, us_4, us_5, us_6, us_7, us_8, us_9, us_10, us_11, rw_zero, rw_succ, Option.toList_some, Option.toList_none, List.cons_append, List.nil_append, cat_int, cat_ref, cat_null, iI_add, iI_sub, iI_mul, iI_neg, List.length_cons, List.length_nil, ↓reduceIte, va_rf_some, Int.reduceToNat, md_0, md_1, md_2, md_3, md_4, md_5, md_6, md_7, md_8, md_9, md_10, md_11, md_12, md_13, md_14, md_15, md_16, md_17, md_18, md_19, md_20, md_21, md_22, md_23, md_24, md_25, md_26, md_27, md_28, md_29, md_30, md_31, mu_0, mu_3, mu_7, mu_9, mu_12, mu_13, mu_14, mu_15, mu_16, mu_17, mu_18, mu_23, mu_24, mu_26, mu_27, mu_28, mu_29, i10, iI_eq, iI_lt, iI_cl, if_true, if_false, and_self, h26, ci]
      exact ih' _ _ _ (by omega) (fun k hk => by rw [up1_ne hk]; exact hg k hk) (by rw [up1_same, hnx, ← hsB]) rfl rfl
    · rw [if_neg c] at hsB
      rw [if_neg c]
      simp (disch := first | assumption | omega | exact isB_z | exact isB_o | exact iI_in' (by assumption) (by omega) (by omega) | exact cat_int _ | exact cat_ref _ | exact cat_null | decide) only [↓x_125_102, ↓x_125_103, ↓x_125_106, ↓x_125_109, ↓x_125_110, ↓x_125_113, ↓x_125_114, ↓x_125_117, ↓x_125_120, up1_same, up1_ne, up1_up1, us_0, us_1, us_2, us_3, us_4, us_5, us_6, us_7, us_8, us_9, us_10, us_11, rw_zero, rw_succ, Option.toList_some, Option.toList_none, List.cons_append, List.nil_append, cat_int, cat_ref, cat_null, iI_add, iI_sub, iI_mul, iI_neg, List.length_cons, List.length_nil, ↓reduceIte, va_rf_some, Int.reduceToNat, md_0, md_1, md_2, md_3, md_4, md_5, md_6, md_7, md_8, md_9, md_10, md_11, md_12, md_13, md_14, md_15, md_16, md_17, md_18, md_19, md_20, md_21, md_22, md_23, md_24, md_25, md_26, md_27, md_28, md_29, md_30, md_31, mu_0, mu_3, mu_7, mu_9, mu_12, mu_13, mu_14, mu_15, mu_16, mu_17, mu_18, mu_23, mu_24, mu_26, mu_27, mu_28, mu_29, i10, iI_eq, iI_lt, iI_cl, if_true, if_false, and_self, h26, ci]
      exact ih' _ _ _ (by omega) (fun k hk => by rw [up1_ne hk]; exact hg k hk) (by rw [up1_same, hnx, ← hsB]) rfl rfl
theorem k_turnedMany (hK : mK t) (hX : wf X) (hm : mH (A 63) X) (hQ : ∀ g' : Nat → Int, (∀ k, k ≠ 26 → g' k = g k) → Q (some (.int (iI (sumI (fun i => dfI (X.2.getD i.toNat 0) ((snt X.1).getD i.toNat 0)) 0 X.1.length)))) (t, up1 V 62 (mdR g'), A, P)) : Call (d + 4) 125 [.ref 62] (t, up1 V 62 (mdR g), A, P) Q := by
  have m0 := hK.1
  simp (disch := first | assumption | omega | exact isB_z | exact isB_o | exact iI_in' (by assumption) (by omega) (by omega) | exact cat_int _ | exact cat_ref _ | exact cat_null | decide) only [c_125, ↓x_125_0, ↓x_125_1, ↓x_125_2, ↓x_125_3, ↓x_125_4, ↓x_125_7, ↓x_125_8, up1_same, up1_ne, up1_up1, us_0, us_1, us_2, us_3, us_4, us_5, us_6, us_7, us_8, us_9, us_10, us_11, rw_zero, rw_succ, Option.toList_some, Option.toList_none, List.cons_append, List.nil_append, cat_int, cat_ref, cat_null, iI_add, iI_sub, iI_mul, iI_neg, List.length_cons, List.length_nil, ↓reduceIte, va_rf_some, Int.reduceToNat, md_0, md_1, md_2, md_3, md_4, md_5, md_6, md_7, md_8, md_9, md_10, md_11, md_12, md_13, md_14, md_15, md_16, md_17, md_18, md_19, md_20, md_21, md_22, md_23, md_24, md_25, md_26, md_27, md_28, md_29, md_30, md_31, mu_0, mu_3, mu_7, mu_9, mu_12, mu_13, mu_14, mu_15, mu_16, mu_17, mu_18, mu_23, mu_24, mu_26, mu_27, mu_28, mu_29]
  exact turned_lp (g0 := g) hK hX hm hQ X.1.length 0 _ _ _ (by omega) (fun k hk => up1_ne hk) (up1_same _ _ _) rfl rfl
end
