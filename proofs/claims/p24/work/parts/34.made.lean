/-! THE CLASS, made: the two rows of wires; the whole -/
section
variable {d : Nat} {V : Nat → Nat → Value} {A : Nat → Nat → Int32} {P : Nat → Nat → Option Nat} {Q : Option Value → mM → Prop}
abbrev wr0 (w : Nat) : Nat → Value := rw' [.ref (w + 1), .ref (w + 2), .ref (w + 3), .int (iI 0), .int (iI (-1)), .int (iI (-9)), .int (iI (-9))]
theorem wr0_e (w : Nat) : wr0 w = wiR w 0 (-1) (-9) (-9) := rfl
/-- m wires lie from b on -/
def wrs (K : Nat → Nat × Nat) (V : Nat → Nat → Value) (b m : Nat) : Prop := ∀ i, i < m → K (b + 4 * i) = (3, 7) ∧ K (b + 4 * i + 1) = (6, 32) ∧ K (b + 4 * i + 2) = (6, 32) ∧ K (b + 4 * i + 3) = (6, 32) ∧ V (b + 4 * i) = wr0 (b + 4 * i)
theorem wrs_add {K : Nat → Nat × Nat} {V : Nat → Nat → Value} {b m N : Nat} (hN : N = b + 4 * m) (h : wrs K V b m) : wrs (up1 (up1 (up1 (up1 K N (3, 7)) (N + 1) (6, 32)) (N + 1 + 1) (6, 32)) (N + 1 + 2) (6, 32)) (up1 V N (wr0 N)) b (m + 1) := by
  subst hN
  intro i hi
  by_cases g : i = m
  · subst g
    refine ⟨?_, ?_, ?_, ?_, up1_same _ _ _⟩
    · rw [up1_ne (by omega), up1_ne (by omega), up1_ne (by omega), up1_same]
    · rw [up1_ne (by omega), up1_ne (by omega)]; exact up1_same _ _ _
    · rw [up1_ne (by omega)]; exact up1_same _ _ _
    · exact up1_same _ _ _
  · obtain ⟨h1, h2, h3, h4, h5⟩ := h i (by omega)
    refine ⟨?_, ?_, ?_, ?_, ?_⟩
    · rw [up1_ne (by omega), up1_ne (by omega), up1_ne (by omega), up1_ne (by omega)]; exact h1
    · rw [up1_ne (by omega), up1_ne (by omega), up1_ne (by omega), up1_ne (by omega)]; exact h2
    · rw [up1_ne (by omega), up1_ne (by omega), up1_ne (by omega), up1_ne (by omega)]; exact h3
    · rw [up1_ne (by omega), up1_ne (by omega), up1_ne (by omega), up1_ne (by omega)]; exact h4
    · rw [up1_ne (by omega)]; exact h5
theorem E_loop1 {K0 : Nat → Nat × Nat} {V0 : Nat → Nat → Value} {A0 : Nat → Nat → Int32} {P0 : Nat → Nat → Option Nat} {S1 : Nat} (k3 : (K0 3).1 = 4) (k8 : K0 8 = (9, 6)) (hV0 : V0 3 = exR 0 0 0)
    (hQ : ∀ (V' : Nat → Nat → Value) (A' : Nat → Nat → Int32) (K' : Nat → Nat × Nat) (P' : Nat → Nat → Option Nat), (∀ a, a < 30 → K' a = K0 a) → (∀ a, a < 30 → V' a = V0 a) → (∀ a, a < 30 → A' a = A0 a) → wrs K' V' 30 6 → (∀ a, a ≠ 8 → P' a = P0 a) → (∀ i, i < 6 → P' 8 i = some (30 + 4 * i)) → Ev (d + 1) 40 115 [.ref 3, .int (iI 6)] [] ((54, S1, K'), V', A', P') Q) :
    ∀ (k j N S : Nat) (K : Nat → Nat × Nat) (V : Nat → Nat → Value) (A : Nat → Nat → Int32) (P : Nat → Nat → Option Nat), j + k = 6 → N = 30 + 4 * j → S + 103 * k = S1 → (∀ a, a < 30 → K a = K0 a) → (∀ a, a < 30 → V a = V0 a) → (∀ a, a < 30 → A a = A0 a) → wrs K V 30 j → (∀ a, a ≠ 8 → P a = P0 a) → (∀ i, i < j → P 8 i = some (30 + 4 * i)) → Ev (d + 1) 40 90 [.ref 3, .int (iI j)] [] ((N, S, K), V, A, P) Q := by
  intro k
  induction k with
  | zero =>
    intro j N S K V A P hj hN hS hK hV hA hW hP1 hP2
    have : j = 6 := by omega
    subst this
    subst hN
    have : S = S1 := by omega
    subst this
    rw [x_40_90]
    simp (disch := first | assumption | omega | exact isB_z | exact isB_o | exact cat_int _ | exact cat_ref _ | exact cat_null | exact up1_same _ _ _ | exact congrArg Prod.fst (up1_same _ _ _) | exact kd_i (congrArg Prod.fst (up1_same _ _ _)) | (refine kd_i ?_; (repeat refine up_n (by omega) ?_); assumption) | ((repeat refine up_n (by omega) ?_); assumption) | decide) only [↓x_40_91, ↓x_40_93, up1_same, up1_ne, up1_up1, us_0, us_1, us_2, us_3, us_4, us_5, us_6, us_7, us_8, us_9, us_10, us_11, rw_zero, rw_succ, Option.toList_some, Option.toList_none, List.cons_append, List.nil_append, cat_int, cat_ref, cat_null, iI_add, iI_sub, iI_mul, iI_neg, List.length_cons, List.length_nil, ↓reduceIte, va_rf_some, iI_lt, Int.reduceLT]
    simp
    exact hQ V A K P hK hV hA hW hP1 hP2
  | succ k ih =>
    intro j N S K V A P hj hN hS hK hV hA hW hP1 hP2
    have e2 : (j : Int) < 6 := by omega
    have tn1 : ((j : Nat) : Int).toNat = j := Int.toNat_natCast _
    have ci : (j : Int) + 1 = ((j + 1 : Nat) : Int) := by omega
    have hV3 : V 3 = exR 0 0 0 := (hV 3 (by omega)).trans hV0
    have q3 : (K 3).1 = 4 := by rw [hK 3 (by omega)]; exact k3
    have q8 : K 8 = (9, 6) := by rw [hK 8 (by omega)]; exact k8
    have j0 : kd (N, S, K) 3 = 4 := q3
    rw [x_40_90]
    simp (disch := first | assumption | omega | exact isB_z | exact isB_o | exact cat_int _ | exact cat_ref _ | exact cat_null | exact up1_same _ _ _ | exact congrArg Prod.fst (up1_same _ _ _) | exact kd_i (congrArg Prod.fst (up1_same _ _ _)) | (refine kd_i ?_; (repeat refine up_n (by omega) ?_); assumption) | ((repeat refine up_n (by omega) ?_); assumption) | decide) only [↓x_40_91, ↓x_40_93, ↓x_40_96, ↓x_40_97, ↓x_40_100, ↓x_40_101, ↓x_40_104, up1_same, up1_ne, up1_up1, us_0, us_1, us_2, us_3, us_4, us_5, us_6, us_7, us_8, us_9, us_10, us_11, rw_zero, rw_succ, Option.toList_some, Option.toList_none, List.cons_append, List.nil_append, cat_int, cat_ref, cat_null, iI_add, iI_sub, iI_mul, iI_neg, List.length_cons, List.length_nil, ↓reduceIte, va_rf_some, exR, hV3, iI_lt, e2, if_true]
    have j8 : kd (N + 1 + 3, S + 7 + 96, up1 (up1 (up1 (up1 K N (3, 7)) (N + 1) (6, 32)) (N + 1 + 1) (6, 32)) (N + 1 + 2) (6, 32)) 8 = 9 := by
      show (up1 (up1 (up1 (up1 K N (3, 7)) (N + 1) (6, 32)) (N + 1 + 1) (6, 32)) (N + 1 + 2) (6, 32) 8).1 = 9
      rw [up1_ne (by omega), up1_ne (by omega), up1_ne (by omega), up1_ne (by omega), q8]
    have l8 : ln (N + 1 + 3, S + 7 + 96, up1 (up1 (up1 (up1 K N (3, 7)) (N + 1) (6, 32)) (N + 1 + 1) (6, 32)) (N + 1 + 2) (6, 32)) 8 = 6 := by
      show (up1 (up1 (up1 (up1 K N (3, 7)) (N + 1) (6, 32)) (N + 1 + 1) (6, 32)) (N + 1 + 2) (6, 32) 8).2 = 6
      rw [up1_ne (by omega), up1_ne (by omega), up1_ne (by omega), up1_ne (by omega), q8]
    have jN : kd (N + 1 + 3, S + 7 + 96, up1 (up1 (up1 (up1 K N (3, 7)) (N + 1) (6, 32)) (N + 1 + 1) (6, 32)) (N + 1 + 2) (6, 32)) N = 3 := by
      show (up1 (up1 (up1 (up1 K N (3, 7)) (N + 1) (6, 32)) (N + 1 + 1) (6, 32)) (N + 1 + 2) (6, 32) N).1 = 3
      rw [up1_ne (by omega), up1_ne (by omega), up1_ne (by omega), up1_same]
    have iB : inB (iI (j : Int)) (ln (N + 1 + 3, S + 7 + 96, up1 (up1 (up1 (up1 K N (3, 7)) (N + 1) (6, 32)) (N + 1 + 1) (6, 32)) (N + 1 + 2) (6, 32)) 8) = true := by rw [l8]; exact iI_in (by omega) (by omega) (by omega)
    simp (disch := first | assumption | omega | exact isB_z | exact isB_o | exact cat_int _ | exact cat_ref _ | exact cat_null | exact up1_same _ _ _ | exact congrArg Prod.fst (up1_same _ _ _) | exact kd_i (congrArg Prod.fst (up1_same _ _ _)) | (refine kd_i ?_; (repeat refine up_n (by omega) ?_); assumption) | ((repeat refine up_n (by omega) ?_); assumption) | decide) only [↓x_40_105, up1_same, up1_ne, up1_up1, us_0, us_1, us_2, us_3, us_4, us_5, us_6, us_7, us_8, us_9, us_10, us_11, rw_zero, rw_succ, Option.toList_some, Option.toList_none, List.cons_append, List.nil_append, cat_int, cat_ref, cat_null, iI_add, iI_sub, iI_mul, iI_neg, List.length_cons, List.length_nil, ↓reduceIte, va_rf_some, k_WireI]
    simp (disch := first | assumption | omega | exact isB_z | exact isB_o | exact cat_int _ | exact cat_ref _ | exact cat_null | exact up1_same _ _ _ | exact congrArg Prod.fst (up1_same _ _ _) | exact kd_i (congrArg Prod.fst (up1_same _ _ _)) | (refine kd_i ?_; (repeat refine up_n (by omega) ?_); assumption) | ((repeat refine up_n (by omega) ?_); assumption) | decide) only [↓x_40_108, ↓x_40_109, ↓x_40_112, up1_same, up1_ne, up1_up1, us_0, us_1, us_2, us_3, us_4, us_5, us_6, us_7, us_8, us_9, us_10, us_11, rw_zero, rw_succ, Option.toList_some, Option.toList_none, List.cons_append, List.nil_append, cat_int, cat_ref, cat_null, iI_add, iI_sub, iI_mul, iI_neg, List.length_cons, List.length_nil, ↓reduceIte, va_rf_some, iI_cl, tn1, ci]
    refine ih (j + 1) (N + 1 + 3) (S + 7 + 96) _ _ _ _ (by omega) (by omega) (by omega) (fun a ha => ?_) (fun a ha => ?_) (fun a ha => ?_) (wrs_add hN hW) (fun a ha => ?_) (fun i hi => ?_)
    · rw [up1_ne (by omega), up1_ne (by omega), up1_ne (by omega), up1_ne (by omega)]; exact hK a ha
    · rw [up1_ne (by omega)]; exact hV a ha
    · rw [up1_ne (by omega), up1_ne (by omega), up1_ne (by omega)]; exact hA a ha
    · rw [up1_ne ha]; exact hP1 a ha
    · rw [up1_same]
      by_cases g : i = j
      · subst g; rw [up1_same, hN]
      · rw [up1_ne g]; exact hP2 i (by omega)
theorem E_loop2 {K0 : Nat → Nat × Nat} {V0 : Nat → Nat → Value} {A0 : Nat → Nat → Int32} {P0 : Nat → Nat → Option Nat} {S1 : Nat} (k3 : (K0 3).1 = 4) (k8 : K0 9 = (9, 2)) (hV0 : V0 3 = exR 0 0 0)
    (hQ : ∀ (V' : Nat → Nat → Value) (A' : Nat → Nat → Int32) (K' : Nat → Nat × Nat) (P' : Nat → Nat → Option Nat), (∀ a, a < 54 → K' a = K0 a) → (∀ a, a < 54 → V' a = V0 a) → (∀ a, a < 54 → A' a = A0 a) → wrs K' V' 54 2 → (∀ a, a ≠ 9 → P' a = P0 a) → (∀ i, i < 2 → P' 9 i = some (54 + 4 * i)) → Ev (d + 1) 40 141 [.ref 3, .int (iI 2)] [] ((62, S1, K'), V', A', P') Q) :
    ∀ (k j N S : Nat) (K : Nat → Nat × Nat) (V : Nat → Nat → Value) (A : Nat → Nat → Int32) (P : Nat → Nat → Option Nat), j + k = 2 → N = 54 + 4 * j → S + 103 * k = S1 → (∀ a, a < 54 → K a = K0 a) → (∀ a, a < 54 → V a = V0 a) → (∀ a, a < 54 → A a = A0 a) → wrs K V 54 j → (∀ a, a ≠ 9 → P a = P0 a) → (∀ i, i < j → P 9 i = some (54 + 4 * i)) → Ev (d + 1) 40 117 [.ref 3, .int (iI j)] [] ((N, S, K), V, A, P) Q := by
  intro k
  induction k with
  | zero =>
    intro j N S K V A P hj hN hS hK hV hA hW hP1 hP2
    have : j = 2 := by omega
    subst this
    subst hN
    have : S = S1 := by omega
    subst this
    rw [x_40_117]
    simp (disch := first | assumption | omega | exact isB_z | exact isB_o | exact cat_int _ | exact cat_ref _ | exact cat_null | exact up1_same _ _ _ | exact congrArg Prod.fst (up1_same _ _ _) | exact kd_i (congrArg Prod.fst (up1_same _ _ _)) | (refine kd_i ?_; (repeat refine up_n (by omega) ?_); assumption) | ((repeat refine up_n (by omega) ?_); assumption) | decide) only [↓x_40_118, ↓x_40_119, up1_same, up1_ne, up1_up1, us_0, us_1, us_2, us_3, us_4, us_5, us_6, us_7, us_8, us_9, us_10, us_11, rw_zero, rw_succ, Option.toList_some, Option.toList_none, List.cons_append, List.nil_append, cat_int, cat_ref, cat_null, iI_add, iI_sub, iI_mul, iI_neg, List.length_cons, List.length_nil, ↓reduceIte, va_rf_some, iI_lt, Int.reduceLT]
    simp
    exact hQ V A K P hK hV hA hW hP1 hP2
  | succ k ih =>
    intro j N S K V A P hj hN hS hK hV hA hW hP1 hP2
    have e2 : (j : Int) < 2 := by omega
    have tn1 : ((j : Nat) : Int).toNat = j := Int.toNat_natCast _
    have ci : (j : Int) + 1 = ((j + 1 : Nat) : Int) := by omega
    have hV3 : V 3 = exR 0 0 0 := (hV 3 (by omega)).trans hV0
    have q3 : (K 3).1 = 4 := by rw [hK 3 (by omega)]; exact k3
    have q8 : K 9 = (9, 2) := by rw [hK 9 (by omega)]; exact k8
    have j0 : kd (N, S, K) 3 = 4 := q3
    rw [x_40_117]
    simp (disch := first | assumption | omega | exact isB_z | exact isB_o | exact cat_int _ | exact cat_ref _ | exact cat_null | exact up1_same _ _ _ | exact congrArg Prod.fst (up1_same _ _ _) | exact kd_i (congrArg Prod.fst (up1_same _ _ _)) | (refine kd_i ?_; (repeat refine up_n (by omega) ?_); assumption) | ((repeat refine up_n (by omega) ?_); assumption) | decide) only [↓x_40_118, ↓x_40_119, ↓x_40_122, ↓x_40_123, ↓x_40_126, ↓x_40_127, ↓x_40_130, up1_same, up1_ne, up1_up1, us_0, us_1, us_2, us_3, us_4, us_5, us_6, us_7, us_8, us_9, us_10, us_11, rw_zero, rw_succ, Option.toList_some, Option.toList_none, List.cons_append, List.nil_append, cat_int, cat_ref, cat_null, iI_add, iI_sub, iI_mul, iI_neg, List.length_cons, List.length_nil, ↓reduceIte, va_rf_some, exR, hV3, iI_lt, e2, if_true]
    have j8 : kd (N + 1 + 3, S + 7 + 96, up1 (up1 (up1 (up1 K N (3, 7)) (N + 1) (6, 32)) (N + 1 + 1) (6, 32)) (N + 1 + 2) (6, 32)) 9 = 9 := by
      show (up1 (up1 (up1 (up1 K N (3, 7)) (N + 1) (6, 32)) (N + 1 + 1) (6, 32)) (N + 1 + 2) (6, 32) 9).1 = 9
      rw [up1_ne (by omega), up1_ne (by omega), up1_ne (by omega), up1_ne (by omega), q8]
    have l8 : ln (N + 1 + 3, S + 7 + 96, up1 (up1 (up1 (up1 K N (3, 7)) (N + 1) (6, 32)) (N + 1 + 1) (6, 32)) (N + 1 + 2) (6, 32)) 9 = 2 := by
      show (up1 (up1 (up1 (up1 K N (3, 7)) (N + 1) (6, 32)) (N + 1 + 1) (6, 32)) (N + 1 + 2) (6, 32) 9).2 = 2
      rw [up1_ne (by omega), up1_ne (by omega), up1_ne (by omega), up1_ne (by omega), q8]
    have jN : kd (N + 1 + 3, S + 7 + 96, up1 (up1 (up1 (up1 K N (3, 7)) (N + 1) (6, 32)) (N + 1 + 1) (6, 32)) (N + 1 + 2) (6, 32)) N = 3 := by
      show (up1 (up1 (up1 (up1 K N (3, 7)) (N + 1) (6, 32)) (N + 1 + 1) (6, 32)) (N + 1 + 2) (6, 32) N).1 = 3
      rw [up1_ne (by omega), up1_ne (by omega), up1_ne (by omega), up1_same]
    have iB : inB (iI (j : Int)) (ln (N + 1 + 3, S + 7 + 96, up1 (up1 (up1 (up1 K N (3, 7)) (N + 1) (6, 32)) (N + 1 + 1) (6, 32)) (N + 1 + 2) (6, 32)) 9) = true := by rw [l8]; exact iI_in (by omega) (by omega) (by omega)
    simp (disch := first | assumption | omega | exact isB_z | exact isB_o | exact cat_int _ | exact cat_ref _ | exact cat_null | exact up1_same _ _ _ | exact congrArg Prod.fst (up1_same _ _ _) | exact kd_i (congrArg Prod.fst (up1_same _ _ _)) | (refine kd_i ?_; (repeat refine up_n (by omega) ?_); assumption) | ((repeat refine up_n (by omega) ?_); assumption) | decide) only [↓x_40_131, up1_same, up1_ne, up1_up1, us_0, us_1, us_2, us_3, us_4, us_5, us_6, us_7, us_8, us_9, us_10, us_11, rw_zero, rw_succ, Option.toList_some, Option.toList_none, List.cons_append, List.nil_append, cat_int, cat_ref, cat_null, iI_add, iI_sub, iI_mul, iI_neg, List.length_cons, List.length_nil, ↓reduceIte, va_rf_some, k_WireI]
    simp (disch := first | assumption | omega | exact isB_z | exact isB_o | exact cat_int _ | exact cat_ref _ | exact cat_null | exact up1_same _ _ _ | exact congrArg Prod.fst (up1_same _ _ _) | exact kd_i (congrArg Prod.fst (up1_same _ _ _)) | (refine kd_i ?_; (repeat refine up_n (by omega) ?_); assumption) | ((repeat refine up_n (by omega) ?_); assumption) | decide) only [↓x_40_134, ↓x_40_135, ↓x_40_138, up1_same, up1_ne, up1_up1, us_0, us_1, us_2, us_3, us_4, us_5, us_6, us_7, us_8, us_9, us_10, us_11, rw_zero, rw_succ, Option.toList_some, Option.toList_none, List.cons_append, List.nil_append, cat_int, cat_ref, cat_null, iI_add, iI_sub, iI_mul, iI_neg, List.length_cons, List.length_nil, ↓reduceIte, va_rf_some, iI_cl, tn1, ci]
    refine ih (j + 1) (N + 1 + 3) (S + 7 + 96) _ _ _ _ (by omega) (by omega) (by omega) (fun a ha => ?_) (fun a ha => ?_) (fun a ha => ?_) (wrs_add hN hW) (fun a ha => ?_) (fun i hi => ?_)
    · rw [up1_ne (by omega), up1_ne (by omega), up1_ne (by omega), up1_ne (by omega)]; exact hK a ha
    · rw [up1_ne (by omega)]; exact hV a ha
    · rw [up1_ne (by omega), up1_ne (by omega), up1_ne (by omega)]; exact hA a ha
    · rw [up1_ne ha]; exact hP1 a ha
    · rw [up1_same]
      by_cases g : i = j
      · subst g; rw [up1_same, hN]
      · rw [up1_ne g]; exact hP2 i (by omega)

set_option maxHeartbeats 400000 in
theorem k_EI {S : Nat} {K : Nat → Nat × Nat} (hk : (K 3).1 = 4) (hw : V 3 = rw' [.null, .null, .null, .null, .null, .null, .null, .null, .null, .int 0, .int 0, .int 0])
    (hQ : ∀ (V' : Nat → Nat → Value) (A' : Nat → Nat → Int32) (K' : Nat → Nat × Nat) (P' : Nat → Nat → Option Nat), exK (62, S + 1220, K') → (∀ a, a < 4 → K' a = K a) → (∀ a, a < 3 → A' a = A a) → RX V' A' P' (aS.mk ([], []) [] (fun _ => none) []) (fun i => i) → Q none ((62, S + 1220, K'), V', A', P')) :
    Call (d + 3) 40 [.ref 3] ((4, S, K), V, A, P) Q := by
  rw [c_40]
  refine E_init1 (V2 := V) (A2 := A) (P2 := P) hk hw rfl (fun V1 r1 r2 r3 => ?_)
  refine E_init2 (by rw [up1_ne (by omega), up1_ne (by omega), up1_ne (by omega), up1_ne (by omega), up1_ne (by omega), up1_ne (by omega), up1_ne (by omega), up1_ne (by omega), up1_ne (by omega)]; exact hk) r1 (fun V2 K2 P2 s0 s13 s14 s15 s16 s17 s18 s19 s20 s21 s22 s29 v3 v0 v13 v17 v22 v29 p0 p18 => ?_)
  have z3 : (K2 3).1 = 4 := by rw [s0 3 (by omega), up1_ne (by omega), up1_ne (by omega), up1_ne (by omega), up1_ne (by omega), up1_ne (by omega), up1_ne (by omega), up1_ne (by omega), up1_ne (by omega), up1_ne (by omega)]; exact hk
  have z8 : K2 8 = (9, 6) := by rw [s0 8 (by omega), up1_ne (by omega), up1_ne (by omega), up1_ne (by omega), up1_ne (by omega), up1_same]
  have z9 : K2 9 = (9, 2) := by rw [s0 9 (by omega), up1_ne (by omega), up1_ne (by omega), up1_ne (by omega), up1_same]
  have z10 : K2 10 = (7, 2) := by rw [s0 10 (by omega), up1_ne (by omega), up1_ne (by omega), up1_same]
  have z11 : K2 11 = (6, 120) := by rw [s0 11 (by omega), up1_ne (by omega), up1_same]
  have z12 : K2 12 = (6, 40) := by rw [s0 12 (by omega), up1_same]
  have z4 : K2 4 = (3, 7) := by rw [s0 4 (by omega), up1_ne (by omega), up1_ne (by omega), up1_ne (by omega), up1_ne (by omega), up1_ne (by omega), up1_ne (by omega), up1_ne (by omega), up1_ne (by omega), up1_same]
  have z5 : K2 5 = (6, 32) := by rw [s0 5 (by omega), up1_ne (by omega), up1_ne (by omega), up1_ne (by omega), up1_ne (by omega), up1_ne (by omega), up1_ne (by omega), up1_ne (by omega), up1_same]
  have z6 : K2 6 = (6, 32) := by rw [s0 6 (by omega), up1_ne (by omega), up1_ne (by omega), up1_ne (by omega), up1_ne (by omega), up1_ne (by omega), up1_ne (by omega), up1_same]
  have z7 : K2 7 = (6, 32) := by rw [s0 7 (by omega), up1_ne (by omega), up1_ne (by omega), up1_ne (by omega), up1_ne (by omega), up1_ne (by omega), up1_same]
  have zk : ∀ a, a < 4 → K2 a = K a := fun a ha => by rw [s0 a (by omega), up1_ne (by omega), up1_ne (by omega), up1_ne (by omega), up1_ne (by omega), up1_ne (by omega), up1_ne (by omega), up1_ne (by omega), up1_ne (by omega), up1_ne (by omega)]
  have v4 : V2 4 = wr0 4 := by rw [v0 4 (by omega) (by omega)]; exact r2
  clear s0
  simp (disch := first | assumption | omega | exact isB_z | exact isB_o | exact cat_int _ | exact cat_ref _ | exact cat_null | exact up1_same _ _ _ | exact congrArg Prod.fst (up1_same _ _ _) | exact kd_i (congrArg Prod.fst (up1_same _ _ _)) | (refine kd_i ?_; (repeat refine up_n (by omega) ?_); assumption) | ((repeat refine up_n (by omega) ?_); assumption) | decide) only [↓x_40_88, ↓x_40_89, up1_same, up1_ne, up1_up1, us_0, us_1, us_2, us_3, us_4, us_5, us_6, us_7, us_8, us_9, us_10, us_11, rw_zero, rw_succ, Option.toList_some, Option.toList_none, List.cons_append, List.nil_append, cat_int, cat_ref, cat_null, iI_add, iI_sub, iI_mul, iI_neg, List.length_cons, List.length_nil, ↓reduceIte, va_rf_some]
  refine E_loop1 (d := d + 1) (K0 := K2) (V0 := V2) (P0 := P2) (S1 := S + 1014) z3 z8 v3 (fun V3 A3 K3 P3 t1 t2 t3 t4 t5 t6 => ?_) 6 0 30 _ K2 V2 _ P2 (by omega) (by omega) (by omega) (fun _ _ => rfl) (fun _ _ => rfl) (fun _ _ => rfl) (fun i hi => absurd hi (by omega)) (fun _ _ => rfl) (fun i hi => absurd hi (by omega))
  simp (disch := first | assumption | omega | exact isB_z | exact isB_o | exact cat_int _ | exact cat_ref _ | exact cat_null | exact up1_same _ _ _ | exact congrArg Prod.fst (up1_same _ _ _) | exact kd_i (congrArg Prod.fst (up1_same _ _ _)) | (refine kd_i ?_; (repeat refine up_n (by omega) ?_); assumption) | ((repeat refine up_n (by omega) ?_); assumption) | decide) only [↓x_40_115, ↓x_40_116, up1_same, up1_ne, up1_up1, us_0, us_1, us_2, us_3, us_4, us_5, us_6, us_7, us_8, us_9, us_10, us_11, rw_zero, rw_succ, Option.toList_some, Option.toList_none, List.cons_append, List.nil_append, cat_int, cat_ref, cat_null, iI_add, iI_sub, iI_mul, iI_neg, List.length_cons, List.length_nil, ↓reduceIte, va_rf_some]
  refine E_loop2 (d := d + 1) (K0 := K3) (V0 := V3) (P0 := P3) (A0 := A3) (S1 := S + 1220) (by rw [t1 3 (by omega)]; exact z3) (by rw [t1 9 (by omega)]; exact z9) (by rw [t2 3 (by omega)]; exact v3) (fun V4 A4 K4 P4 u1 u2 u3 u4 u5 u6 => ?_) 2 0 54 _ K3 V3 A3 P3 (by omega) (by omega) (by omega) (fun _ _ => rfl) (fun _ _ => rfl) (fun _ _ => rfl) (fun i hi => absurd hi (by omega)) (fun _ _ => rfl) (fun i hi => absurd hi (by omega))
  simp (disch := first | assumption | omega | exact isB_z | exact isB_o | exact cat_int _ | exact cat_ref _ | exact cat_null | exact up1_same _ _ _ | exact congrArg Prod.fst (up1_same _ _ _) | exact kd_i (congrArg Prod.fst (up1_same _ _ _)) | (refine kd_i ?_; (repeat refine up_n (by omega) ?_); assumption) | ((repeat refine up_n (by omega) ?_); assumption) | decide) only [↓x_40_141, up1_same, up1_ne, up1_up1, us_0, us_1, us_2, us_3, us_4, us_5, us_6, us_7, us_8, us_9, us_10, us_11, rw_zero, rw_succ, Option.toList_some, Option.toList_none, List.cons_append, List.nil_append, cat_int, cat_ref, cat_null, iI_add, iI_sub, iI_mul, iI_neg, List.length_cons, List.length_nil, ↓reduceIte, va_rf_some]
  have w1 : ∀ a, a < 30 → K4 a = K2 a := fun a ha => (u1 a (by omega)).trans (t1 a ha)
  have w2 : ∀ a, a < 30 → V4 a = V2 a := fun a ha => (u2 a (by omega)).trans (t2 a ha)
  have wK : ∀ j : Nat, j < 6 → wiK (62, S + 1220, K4) (30 + 4 * j) := fun j hj => by
    obtain ⟨q1, q2, q3, q4, q5⟩ := t4 j hj
    simp only [wiK, kd, ln]
    rw [u1 _ (by omega), u1 _ (by omega), u1 _ (by omega), u1 _ (by omega), q1, q2, q3, q4]
    exact ⟨rfl, rfl, rfl, rfl, rfl, rfl, rfl⟩
  have wI : ∀ j : Nat, j < 2 → wiK (62, S + 1220, K4) (54 + 4 * j) := fun j hj => by
    obtain ⟨q1, q2, q3, q4, q5⟩ := u4 j hj
    simp only [wiK, kd, ln]
    rw [q1, q2, q3, q4]
    exact ⟨rfl, rfl, rfl, rfl, rfl, rfl, rfl⟩
  have w0 : wiK (62, S + 1220, K4) 4 := by
    simp only [wiK, kd, ln]
    rw [w1 4 (by omega), w1 (4 + 1) (by omega), w1 (4 + 2) (by omega), w1 (4 + 3) (by omega), z4, z5, z6, z7]
    exact ⟨rfl, rfl, rfl, rfl, rfl, rfl, rfl⟩
  refine hQ V4 A4 K4 P4 ⟨?_, w0, ?_, ?_, ?_, ?_, ?_, ?_, ?_, ?_, wK, wI⟩ (fun a ha => (w1 a (by omega)).trans (zk a ha)) (fun a ha => ?_) ?_
  · show (K4 3).1 = 4; rw [w1 3 (by omega)]; exact z3
  · simp only [kd, ln]; rw [w1 8 (by omega), z8]; exact ⟨rfl, rfl⟩
  · simp only [kd, ln]; rw [w1 9 (by omega), z9]; exact ⟨rfl, rfl⟩
  · simp only [kd, ln]; rw [w1 10 (by omega), z10]; exact ⟨rfl, rfl⟩
  · simp only [kd, ln]; rw [w1 11 (by omega), z11]; exact ⟨rfl, rfl⟩
  · simp only [kd, ln]; rw [w1 12 (by omega), z12]; exact ⟨rfl, rfl⟩
  · simp only [rdK, kd, ln]; rw [w1 13 (by omega), w1 (13 + 1) (by omega), w1 (13 + 2) (by omega), w1 (13 + 3) (by omega), s13, s14, s15, s16]; exact ⟨rfl, rfl, rfl, rfl, rfl⟩
  · simp only [orK, kd, ln]; rw [w1 17 (by omega), w1 (17 + 1) (by omega), w1 (17 + 2) (by omega), w1 (17 + 3) (by omega), w1 (17 + 4) (by omega), s17, s18, s19, s20, s21]
    refine ⟨rfl, rfl, rfl, rfl, rfl, rfl, rfl, rfl, rfl, fun j hj => ?_⟩
    rw [w1 _ (by omega), s22 j hj]
  · show (K4 29).1 = 2; rw [w1 29 (by omega), s29]
  · rw [u3 a (by omega), t3 a (by omega), up1_ne (by omega), up1_ne (by omega), up1_ne (by omega), up1_ne (by omega), up1_ne (by omega), up1_ne (by omega), up1_ne (by omega), up1_ne (by omega), up1_ne (by omega), up1_ne (by omega)]
  · refine ⟨⟨0, by rw [w2 3 (by omega)]; exact v3⟩, ⟨by rw [w2 4 (by omega), v4]; rfl, fun i hi => absurd hi (by simp), fun i hi => absurd hi (by simp), fun i hi => absurd hi (by simp)⟩, ⟨by simp, by simp, fun i hi => absurd hi (by simp), fun i hi => absurd hi (by simp)⟩, Nat.zero_le _, fun i hi => ⟨?_, hi⟩, fun i j _ _ h => h, fun j hj => ⟨0, -1, -9, -9, ?_⟩, fun i hi => absurd hi (Nat.not_lt_zero _), fun i hi => u6 i hi, fun j hj => ⟨0, -1, -9, -9, (u4 j hj).2.2.2.2⟩, fun i hi => ?_, Nat.zero_le _, fun i hi => absurd hi (Nat.not_lt_zero _), ⟨⟨0, -1, 0, -9, 0, 0, -9, ?_, ?_, ?_⟩, ⟨0, 0, ?_⟩, fun j hj => ⟨-1, (-1, -9, 0, 0), ?_⟩, ⟨-1, (-1, -9, 0, 0), ?_⟩⟩, fun j hj => ?_⟩
    · rw [u5 8 (by omega)]; exact t6 i hi
    · rw [u2 _ (by omega)]; exact (t4 j hj).2.2.2.2
    · show A4 10 i = iI 0
      rw [u3 10 (by omega), t3 10 (by omega), up1_ne (by omega), up1_ne (by omega), up1_ne (by omega), up1_ne (by omega), up1_ne (by omega), up1_ne (by omega), up1_same, iI0]
    · rw [w2 13 (by omega)]; exact v13.1
    · obtain ⟨s, W, hh⟩ := v13.2.1
      exact ⟨s, W, (w2 _ (by omega)).trans hh⟩
    · obtain ⟨s, W, hh⟩ := v13.2.2
      exact ⟨s, W, (w2 _ (by omega)).trans hh⟩
    · rw [w2 17 (by omega)]; exact v17
    · rw [w2 _ (by omega)]; exact v22 j hj
    · rw [w2 29 (by omega)]; exact v29
    · show P4 18 j = _
      rw [u5 18 (by omega), t5 18 (by omega)]; exact p18 j hj
end
