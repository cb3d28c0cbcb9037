/-! THE MODEL: forms, and its tables -/
def gdK (m v : Int) : Int := if pcI v = m ∧ ¬ (v = 15 ∨ v = 30 ∨ v = 60) ∧ ¬ v = 7 ∧ ¬ v = 56 then 1 else 0
def kq (m : Int) : Nat → Nat → Int → Int
  | 0, _, _ => -1
  | n + 1, l, v => if gdK m v = 1 then (if l = 0 then v else kq m n (l - 1) (v + 1)) else kq m n l (v + 1)
theorem kq_3 : ∀ k : Nat, k < 18 → kq 3 64 k 0 = fA k := by decide +kernel
theorem kq_4 : ∀ k : Nat, k < 12 → kq 4 64 k 0 = fA ((k : Int) + 18) := by decide +kernel
/-- the form by its number -/
def fO (k f : Int) : Int := if f = 0 then fA k else fB k
theorem fO_b {k : Int} (f : Int) (h0 : 0 ≤ k) (h1 : k < 34) : 0 ≤ fO k f ∧ fO k f < 64 := by
  unfold fO
  split
  · exact fA_b h0 h1
  · exact fB_b h0 h1
theorem fO_D {k s : Int} (hs : s = -1 ∨ s = 1) : fO k (if s < 0 then 0 else 1) = fD k s := by
  rcases hs with rfl | rfl <;> rfl
section
variable {d : Nat} {t : mL} {V : Nat → Nat → Value} {A : Nat → Nat → Int32} {P : Nat → Nat → Option Nat} {μ : mM} {Q : Option Value → mM → Prop} {S : aS} {g : Nat → Int}
theorem kth_gd {k l o : Value} {m v : Int} (hm : 0 ≤ m ∧ m < 100) (h0 : 0 ≤ v) (h1 : v < 64) : Ev (d + 1) 82 50 [k, .int (iI m), l, .int (iI v), o] [] μ Q = Ev (d + 1) 82 82 [k, .int (iI m), l, .int (iI v), o] [.int (iI (gdK m v))] μ Q := by
  have hp := pc_b h0 h1
  simp (disch := first | assumption | omega | exact isB_z | exact isB_o | exact iI_in' (by assumption) (by omega) (by omega) | exact cat_int _ | exact cat_ref _ | exact cat_null | decide) only [↓x_82_50, ↓x_82_51, ↓x_82_54, ↓x_82_55, up1_same, up1_ne, up1_up1, us_0, us_1, us_2, us_3, us_4, us_5, us_6, us_7, us_8, us_9, us_10, us_11, rw_zero, rw_succ, Option.toList_some, Option.toList_none, List.cons_append, List.nil_append, cat_int, cat_ref, cat_null, iI_add, iI_sub, iI_mul, iI_neg, List.length_cons, List.length_nil, ↓reduceIte, va_rf_some, k_onesM h0 h1, iI_eq]
  unfold gdK
  by_cases c : pcI v = m
  · simp (disch := first | assumption | omega | exact isB_z | exact isB_o | exact iI_in' (by assumption) (by omega) (by omega) | exact cat_int _ | exact cat_ref _ | exact cat_null | decide) only [c, if_true, ↓x_82_58, ↓x_82_59, ↓x_82_62, up1_same, up1_ne, up1_up1, us_0, us_1, us_2, us_3, us_4, us_5, us_6, us_7, us_8, us_9, us_10, us_11, rw_zero, rw_succ, Option.toList_some, Option.toList_none, List.cons_append, List.nil_append, cat_int, cat_ref, cat_null, iI_add, iI_sub, iI_mul, iI_neg, List.length_cons, List.length_nil, ↓reduceIte, va_rf_some, k_isMark, iI_eq]
    by_cases c1 : v = 15 ∨ v = 30 ∨ v = 60
    · simp (disch := first | assumption | omega | exact isB_z | exact isB_o | exact iI_in' (by assumption) (by omega) (by omega) | exact cat_int _ | exact cat_ref _ | exact cat_null | decide) only [c1, if_true, ↓x_82_58, ↓x_82_59, ↓x_82_62, ↓x_82_65, ↓x_82_66, ↓x_82_68, ↓x_82_71, ↓x_82_72, ↓x_82_74, ↓x_82_77, ↓x_82_78, ↓x_82_81, up1_same, up1_ne, up1_up1, us_0, us_1, us_2, us_3, us_4, us_5, us_6, us_7, us_8, us_9, us_10, us_11, rw_zero, rw_succ, Option.toList_some, Option.toList_none, List.cons_append, List.nil_append, cat_int, cat_ref, cat_null, iI_add, iI_sub, iI_mul, iI_neg, List.length_cons, List.length_nil, ↓reduceIte, va_rf_some, iI_eq]
      simp
    · simp (disch := first | assumption | omega | exact isB_z | exact isB_o | exact iI_in' (by assumption) (by omega) (by omega) | exact cat_int _ | exact cat_ref _ | exact cat_null | decide) only [c1, if_false, ↓x_82_58, ↓x_82_59, ↓x_82_62, ↓x_82_65, ↓x_82_66, ↓x_82_68, ↓x_82_71, ↓x_82_72, ↓x_82_74, ↓x_82_77, ↓x_82_78, ↓x_82_81, up1_same, up1_ne, up1_up1, us_0, us_1, us_2, us_3, us_4, us_5, us_6, us_7, us_8, us_9, us_10, us_11, rw_zero, rw_succ, Option.toList_some, Option.toList_none, List.cons_append, List.nil_append, cat_int, cat_ref, cat_null, iI_add, iI_sub, iI_mul, iI_neg, List.length_cons, List.length_nil, ↓reduceIte, va_rf_some, iI_eq]
      by_cases c2 : v = 7
      · simp [c2]
      · by_cases c3 : v = 56
        · simp [c3]
        · simp [c2, c3]
  · simp (disch := first | assumption | omega | exact isB_z | exact isB_o | exact iI_in' (by assumption) (by omega) (by omega) | exact cat_int _ | exact cat_ref _ | exact cat_null | decide) only [c, if_false, ↓x_82_81, up1_same, up1_ne, up1_up1, us_0, us_1, us_2, us_3, us_4, us_5, us_6, us_7, us_8, us_9, us_10, us_11, rw_zero, rw_succ, Option.toList_some, Option.toList_none, List.cons_append, List.nil_append, cat_int, cat_ref, cat_null, iI_add, iI_sub, iI_mul, iI_neg, List.length_cons, List.length_nil, ↓reduceIte, va_rf_some]
    simp
theorem kth_in {k : Value} {m E : Int} (hm : 0 ≤ m ∧ m < 100) (hE : 0 ≤ E) : ∀ (n l : Nat) (v : Int), 0 ≤ v → v + n ≤ 64 → l < 100 → kq m n l v = E → Ev (d + 1) 82 45 [k, .int (iI m), .int (iI l), .int (iI v), .int (iI 0)] [] μ Q = Q (some (.int (iI E))) μ := by
  intro n
  induction n with
  | zero =>
    intro l v _ _ _ h
    simp only [kq] at h
    omega
  | succ n ih =>
    intro l v h0 h1 hl h
    simp only [kq] at h
    rw [x_82_45]
    simp (disch := first | assumption | omega | exact isB_z | exact isB_o | exact iI_in' (by assumption) (by omega) (by omega) | exact cat_int _ | exact cat_ref _ | exact cat_null | decide) only [↓x_82_47, up1_same, up1_ne, up1_up1, us_0, us_1, us_2, us_3, us_4, us_5, us_6, us_7, us_8, us_9, us_10, us_11, rw_zero, rw_succ, Option.toList_some, Option.toList_none, List.cons_append, List.nil_append, cat_int, cat_ref, cat_null, iI_add, iI_sub, iI_mul, iI_neg, List.length_cons, List.length_nil, ↓reduceIte, va_rf_some, iI_eq, Int.reduceLT, if_true]
    rw [kth_gd hm h0 (by omega)]
    by_cases c : gdK m v = 1
    · rw [if_pos c] at h
      rw [c]
      simp (disch := first | assumption | omega | exact isB_z | exact isB_o | exact iI_in' (by assumption) (by omega) (by omega) | exact cat_int _ | exact cat_ref _ | exact cat_null | decide) only [↓x_82_82, ↓x_82_84, ↓x_82_85, ↓x_82_87, ↓x_82_90, ↓x_82_91, ↓x_82_94, ↓x_82_95, ↓x_82_96, ↓x_82_97, up1_same, up1_ne, up1_up1, us_0, us_1, us_2, us_3, us_4, us_5, us_6, us_7, us_8, us_9, us_10, us_11, rw_zero, rw_succ, Option.toList_some, Option.toList_none, List.cons_append, List.nil_append, cat_int, cat_ref, cat_null, iI_add, iI_sub, iI_mul, iI_neg, List.length_cons, List.length_nil, ↓reduceIte, va_rf_some, iI_eq]
      simp only [show ¬ (1 : Int) = 0 by omega, if_false, if_true]
      simp (disch := first | assumption | omega | exact isB_z | exact isB_o | exact iI_in' (by assumption) (by omega) (by omega) | exact cat_int _ | exact cat_ref _ | exact cat_null | decide) only [↓x_82_90, ↓x_82_91, ↓x_82_94, ↓x_82_95, ↓x_82_96, ↓x_82_97, up1_same, up1_ne, up1_up1, us_0, us_1, us_2, us_3, us_4, us_5, us_6, us_7, us_8, us_9, us_10, us_11, rw_zero, rw_succ, Option.toList_some, Option.toList_none, List.cons_append, List.nil_append, cat_int, cat_ref, cat_null, iI_add, iI_sub, iI_mul, iI_neg, List.length_cons, List.length_nil, ↓reduceIte, va_rf_some, Int.add_zero]
      rw [x_82_45]
      simp (disch := first | assumption | omega | exact isB_z | exact isB_o | exact iI_in' (by assumption) (by omega) (by omega) | exact cat_int _ | exact cat_ref _ | exact cat_null | decide) only [↓x_82_47, up1_same, up1_ne, up1_up1, us_0, us_1, us_2, us_3, us_4, us_5, us_6, us_7, us_8, us_9, us_10, us_11, rw_zero, rw_succ, Option.toList_some, Option.toList_none, List.cons_append, List.nil_append, cat_int, cat_ref, cat_null, iI_add, iI_sub, iI_mul, iI_neg, List.length_cons, List.length_nil, ↓reduceIte, va_rf_some, iI_eq, show ¬ (1 : Int) = 0 by omega, if_false]
      rw [x_82_7]
      simp (disch := first | assumption | omega | exact isB_z | exact isB_o | exact iI_in' (by assumption) (by omega) (by omega) | exact cat_int _ | exact cat_ref _ | exact cat_null | decide) only [↓x_82_9, ↓x_82_12, ↓x_82_13, up1_same, up1_ne, up1_up1, us_0, us_1, us_2, us_3, us_4, us_5, us_6, us_7, us_8, us_9, us_10, us_11, rw_zero, rw_succ, Option.toList_some, Option.toList_none, List.cons_append, List.nil_append, cat_int, cat_ref, cat_null, iI_add, iI_sub, iI_mul, iI_neg, List.length_cons, List.length_nil, ↓reduceIte, va_rf_some, iI_eq, iI_lt, show ¬ (1 : Int) = 0 by omega, if_false]
      by_cases c2 : l = 0
      · rw [if_pos c2] at h
        have e : ¬ (0 : Int) < l := by omega
        simp (disch := first | assumption | omega | exact isB_z | exact isB_o | exact iI_in' (by assumption) (by omega) (by omega) | exact cat_int _ | exact cat_ref _ | exact cat_null | decide) only [e, if_false, ↓x_82_100, ↓x_82_101, up1_same, up1_ne, up1_up1, us_0, us_1, us_2, us_3, us_4, us_5, us_6, us_7, us_8, us_9, us_10, us_11, rw_zero, rw_succ, Option.toList_some, Option.toList_none, List.cons_append, List.nil_append, cat_int, cat_ref, cat_null, iI_add, iI_sub, iI_mul, iI_neg, List.length_cons, List.length_nil, ↓reduceIte, va_rf_some, h]
      · rw [if_neg c2] at h
        have e : (0 : Int) < l := by omega
        have el : (l : Int) - 1 = ((l - 1 : Nat) : Int) := by omega
        simp (disch := first | assumption | omega | exact isB_z | exact isB_o | exact iI_in' (by assumption) (by omega) (by omega) | exact cat_int _ | exact cat_ref _ | exact cat_null | decide) only [e, if_true, if_false, ↓x_82_16, ↓x_82_17, ↓x_82_19, ↓x_82_22, ↓x_82_23, ↓x_82_26, ↓x_82_27, ↓x_82_28, ↓x_82_29, ↓x_82_30, ↓x_82_32, ↓x_82_35, ↓x_82_36, ↓x_82_39, ↓x_82_40, ↓x_82_41, ↓x_82_42, ↓x_82_43, up1_same, up1_ne, up1_up1, us_0, us_1, us_2, us_3, us_4, us_5, us_6, us_7, us_8, us_9, us_10, us_11, rw_zero, rw_succ, Option.toList_some, Option.toList_none, List.cons_append, List.nil_append, cat_int, cat_ref, cat_null, iI_add, iI_sub, iI_mul, iI_neg, List.length_cons, List.length_nil, ↓reduceIte, va_rf_some, iI_eq, show ¬ (1 : Int) = 0 by omega, el]
        exact ih (l - 1) (v + 1) (by omega) (by omega) (by omega) h
    · rw [if_neg c] at h
      have c0 : gdK m v = 0 := by unfold gdK at c ⊢; split <;> simp_all
      rw [c0]
      simp (disch := first | assumption | omega | exact isB_z | exact isB_o | exact iI_in' (by assumption) (by omega) (by omega) | exact cat_int _ | exact cat_ref _ | exact cat_null | decide) only [↓x_82_82, ↓x_82_84, ↓x_82_85, ↓x_82_87, ↓x_82_90, ↓x_82_91, ↓x_82_94, ↓x_82_95, ↓x_82_96, ↓x_82_97, up1_same, up1_ne, up1_up1, us_0, us_1, us_2, us_3, us_4, us_5, us_6, us_7, us_8, us_9, us_10, us_11, rw_zero, rw_succ, Option.toList_some, Option.toList_none, List.cons_append, List.nil_append, cat_int, cat_ref, cat_null, iI_add, iI_sub, iI_mul, iI_neg, List.length_cons, List.length_nil, ↓reduceIte, va_rf_some, iI_eq, if_true]
      exact ih l (v + 1) (by omega) (by omega) hl h
theorem k_kth {m E : Int} {l : Nat} (hm : 0 ≤ m ∧ m < 100) (hl : l < 100) (hE : 0 ≤ E) (h : kq m 64 l 0 = E) : Call (d + 2) 82 [.int (iI l), .int (iI m)] μ Q = Q (some (.int (iI E))) μ := by
  simp (disch := first | assumption | omega | exact isB_z | exact isB_o | exact iI_in' (by assumption) (by omega) (by omega) | exact cat_int _ | exact cat_ref _ | exact cat_null | decide) only [c_82, ↓x_82_0, ↓x_82_1, ↓x_82_2, ↓x_82_3, ↓x_82_4, ↓x_82_5, up1_same, up1_ne, up1_up1, us_0, us_1, us_2, us_3, us_4, us_5, us_6, us_7, us_8, us_9, us_10, us_11, rw_zero, rw_succ, Option.toList_some, Option.toList_none, List.cons_append, List.nil_append, cat_int, cat_ref, cat_null, iI_add, iI_sub, iI_mul, iI_neg, List.length_cons, List.length_nil, ↓reduceIte, va_rf_some]
  rw [x_82_7]
  simp (disch := first | assumption | omega | exact isB_z | exact isB_o | exact iI_in' (by assumption) (by omega) (by omega) | exact cat_int _ | exact cat_ref _ | exact cat_null | decide) only [↓x_82_9, ↓x_82_12, ↓x_82_13, ↓x_82_16, ↓x_82_17, ↓x_82_19, ↓x_82_22, ↓x_82_23, ↓x_82_26, ↓x_82_27, ↓x_82_28, ↓x_82_29, ↓x_82_30, ↓x_82_32, ↓x_82_35, ↓x_82_36, ↓x_82_39, ↓x_82_40, ↓x_82_41, ↓x_82_42, ↓x_82_43, up1_same, up1_ne, up1_up1, us_0, us_1, us_2, us_3, us_4, us_5, us_6, us_7, us_8, us_9, us_10, us_11, rw_zero, rw_succ, Option.toList_some, Option.toList_none, List.cons_append, List.nil_append, cat_int, cat_ref, cat_null, iI_add, iI_sub, iI_mul, iI_neg, List.length_cons, List.length_nil, ↓reduceIte, va_rf_some, iI_eq, if_true, Int.add_zero, Int.sub_zero]
  exact kth_in hm hE 64 l 0 (by omega) (by omega) hl h
theorem k_formOf {k f : Int} (h0 : 0 ≤ k) (h1 : k < 34) (hf : f = 0 ∨ f = 1) : Call (d + 3) 83 [.int (iI k), .int (iI f)] μ Q = Q (some (.int (iI (fO k f)))) μ := by
  have key : Call (d + 3) 83 [.int (iI k), .int (iI f)] μ Q = Ev (d + 2) 83 66 [.int (iI k), .int (iI f), .null] [.int (iI (fA k))] μ Q := by
    obtain ⟨n, rfl⟩ : ∃ n : Nat, k = n := ⟨k.toNat, by omega⟩
    by_cases c : n < 18
    · have e : (n : Int) < 18 := by omega
      have hk := kq_3 n c
      have hb := fA_b h0 h1
      simp (disch := first | assumption | omega | exact isB_z | exact isB_o | exact iI_in' (by assumption) (by omega) (by omega) | exact cat_int _ | exact cat_ref _ | exact cat_null | decide) only [c_83, ↓x_83_0, ↓x_83_1, ↓x_83_3, ↓x_83_6, ↓x_83_7, ↓x_83_8, ↓x_83_11, up1_same, up1_ne, up1_up1, us_0, us_1, us_2, us_3, us_4, us_5, us_6, us_7, us_8, us_9, us_10, us_11, rw_zero, rw_succ, Option.toList_some, Option.toList_none, List.cons_append, List.nil_append, cat_int, cat_ref, cat_null, iI_add, iI_sub, iI_mul, iI_neg, List.length_cons, List.length_nil, ↓reduceIte, va_rf_some, iI_lt, e, if_true, k_kth (by omega) (by omega) hb.1 hk]
    · by_cases c2 : n < 30
      · have e : ¬ (n : Int) < 18 := by omega
        have e2 : (n : Int) < 30 := by omega
        have hk := kq_4 (n - 18) (by omega)
        have en : ((n - 18 : Nat) : Int) + 18 = n := by omega
        rw [en] at hk
        have hb := fA_b h0 h1
        have el : (n : Int) - 18 = ((n - 18 : Nat) : Int) := by omega
        simp (disch := first | assumption | omega | exact isB_z | exact isB_o | exact iI_in' (by assumption) (by omega) (by omega) | exact cat_int _ | exact cat_ref _ | exact cat_null | decide) only [c_83, ↓x_83_0, ↓x_83_1, ↓x_83_3, ↓x_83_6, ↓x_83_7, ↓x_83_8, ↓x_83_11, ↓x_83_14, ↓x_83_15, ↓x_83_17, ↓x_83_20, ↓x_83_21, ↓x_83_23, ↓x_83_24, ↓x_83_25, ↓x_83_28, up1_same, up1_ne, up1_up1, us_0, us_1, us_2, us_3, us_4, us_5, us_6, us_7, us_8, us_9, us_10, us_11, rw_zero, rw_succ, Option.toList_some, Option.toList_none, List.cons_append, List.nil_append, cat_int, cat_ref, cat_null, iI_add, iI_sub, iI_mul, iI_neg, List.length_cons, List.length_nil, ↓reduceIte, va_rf_some, iI_lt, e, e2, if_true, if_false, el, k_kth (m := 4) (l := n - 18) (by omega) (by omega) hb.1 hk]
      · have e : ¬ (n : Int) < 18 := by omega
        have e2 : ¬ (n : Int) < 30 := by omega
        have e3 : n = 30 ∨ n = 31 ∨ n = 32 ∨ n = 33 := by omega
        rcases e3 with rfl | rfl | rfl | rfl <;> simp (disch := first | assumption | omega | exact isB_z | exact isB_o | exact iI_in' (by assumption) (by omega) (by omega) | exact cat_int _ | exact cat_ref _ | exact cat_null | decide) only [c_83, ↓x_83_0, ↓x_83_1, ↓x_83_3, ↓x_83_6, ↓x_83_7, ↓x_83_8, ↓x_83_11, ↓x_83_14, ↓x_83_15, ↓x_83_17, ↓x_83_20, ↓x_83_21, ↓x_83_23, ↓x_83_24, ↓x_83_25, ↓x_83_28, ↓x_83_31, ↓x_83_32, ↓x_83_34, ↓x_83_37, ↓x_83_39, ↓x_83_42, ↓x_83_43, ↓x_83_45, ↓x_83_48, ↓x_83_50, ↓x_83_53, ↓x_83_54, ↓x_83_56, ↓x_83_59, ↓x_83_61, ↓x_83_64, up1_same, up1_ne, up1_up1, us_0, us_1, us_2, us_3, us_4, us_5, us_6, us_7, us_8, us_9, us_10, us_11, rw_zero, rw_succ, Option.toList_some, Option.toList_none, List.cons_append, List.nil_append, cat_int, cat_ref, cat_null, iI_add, iI_sub, iI_mul, iI_neg, List.length_cons, List.length_nil, ↓reduceIte, va_rf_some, iI_lt, iI_eq, e, e2, if_true, if_false] <;> simp <;> rfl
  rw [key]
  have hb := fA_b h0 h1
  simp (disch := first | assumption | omega | exact isB_z | exact isB_o | exact iI_in' (by assumption) (by omega) (by omega) | exact cat_int _ | exact cat_ref _ | exact cat_null | decide) only [↓x_83_66, ↓x_83_67, ↓x_83_68, ↓x_83_70, ↓x_83_73, ↓x_83_74, ↓x_83_77, ↓x_83_78, ↓x_83_81, ↓x_83_83, ↓x_83_84, ↓x_83_85, up1_same, up1_ne, up1_up1, us_0, us_1, us_2, us_3, us_4, us_5, us_6, us_7, us_8, us_9, us_10, us_11, rw_zero, rw_succ, Option.toList_some, Option.toList_none, List.cons_append, List.nil_append, cat_int, cat_ref, cat_null, iI_add, iI_sub, iI_mul, iI_neg, List.length_cons, List.length_nil, ↓reduceIte, va_rf_some, iI_lt, iI_eq]
  unfold fO fB
  by_cases c : k < 18
  · simp [c]
  · rcases hf with rfl | rfl
    · simp [c]
    · simp [c]
/-- the tables, after n steps -/
def lyM : Nat → Nat → Int
  | 0, _ => -9
  | n + 1, v => if v = (fO ((n / 2 : Nat) : Int) ((n % 2 : Nat) : Int)).toNat then ((n / 2 : Nat) : Int) else lyM n v
def lyI : Nat → Nat → Nat
  | 0, _ => 0
  | n + 1, v => if v = (fO ((n / 2 : Nat) : Int) ((n % 2 : Nat) : Int)).toNat then lyI n v ||| 2 ^ (n % 2) else lyI n v
theorem ly_tab : ∀ v : Nat, v < 64 → lyM 68 v = mn v ∧ (lyI 68 v : Int) = ifm v := by decide +kernel
theorem lays_it {k f : Int} (hK : mK t) (h0 : 0 ≤ k) (h1 : k < 34) (hf : f = 0 ∨ f = 1) : Ev (d + 3) 84 47 [.ref 62, .int (iI k), .int (iI f)] [] (t, up1 V 62 (mdR g), A, P) Q = Ev (d + 3) 84 47 [.ref 62, .int (iI k), .int (iI (f + 1))] [] (t, up1 V 62 (mdR g), up1 (up1 A 69 (upd (A 69) (fO k f).toNat (iI k))) 70 (upd (A 70) (fO k f).toNat (A 70 (fO k f).toNat ||| iI 1 <<< (iI f &&& 31))), P) Q := by
  obtain ⟨m0, ⟨m1, l1⟩, ⟨m2, l2⟩, ⟨m3, l3⟩, ⟨m4, l4⟩, ⟨m5, l5⟩, ⟨m6, l6⟩, ⟨m7, l7⟩, ⟨m8, l8⟩, ⟨m9, l9⟩, ⟨m10, l10⟩, ⟨m11, l11⟩, ⟨m12, l12⟩, ⟨m13, l13⟩, ⟨m14, l14⟩, m15, l15⟩ := hK
  have hb := fO_b f h0 h1
  have e : f < 2 := by omega
  rw [x_84_47]
  simp (disch := first | assumption | omega | exact isB_z | exact isB_o | exact iI_in' (by assumption) (by omega) (by omega) | exact cat_int _ | exact cat_ref _ | exact cat_null | decide) only [↓x_84_48, ↓x_84_49, ↓x_84_52, ↓x_84_53, ↓x_84_56, ↓x_84_57, ↓x_84_58, up1_same, up1_ne, up1_up1, us_0, us_1, us_2, us_3, us_4, us_5, us_6, us_7, us_8, us_9, us_10, us_11, rw_zero, rw_succ, Option.toList_some, Option.toList_none, List.cons_append, List.nil_append, cat_int, cat_ref, cat_null, iI_add, iI_sub, iI_mul, iI_neg, List.length_cons, List.length_nil, ↓reduceIte, va_rf_some, Int.reduceToNat, md_0, md_1, md_2, md_3, md_4, md_5, md_6, md_7, md_8, md_9, md_10, md_11, md_12, md_13, md_14, md_15, md_16, md_17, md_18, md_19, md_20, md_21, md_22, md_23, md_24, md_25, md_26, md_27, md_28, md_29, md_30, md_31, mu_0, mu_3, mu_7, mu_9, mu_12, mu_13, mu_14, mu_15, mu_16, mu_17, mu_18, mu_23, mu_24, mu_26, mu_27, mu_28, mu_29, iI_lt, e, if_true, k_formOf h0 h1 hf]
  simp (disch := first | assumption | omega | exact isB_z | exact isB_o | exact iI_in' (by assumption) (by omega) (by omega) | exact cat_int _ | exact cat_ref _ | exact cat_null | decide) only [↓x_84_61, ↓x_84_62, ↓x_84_63, ↓x_84_64, ↓x_84_67, ↓x_84_68, ↓x_84_69, up1_same, up1_ne, up1_up1, us_0, us_1, us_2, us_3, us_4, us_5, us_6, us_7, us_8, us_9, us_10, us_11, rw_zero, rw_succ, Option.toList_some, Option.toList_none, List.cons_append, List.nil_append, cat_int, cat_ref, cat_null, iI_add, iI_sub, iI_mul, iI_neg, List.length_cons, List.length_nil, ↓reduceIte, va_rf_some, Int.reduceToNat, md_0, md_1, md_2, md_3, md_4, md_5, md_6, md_7, md_8, md_9, md_10, md_11, md_12, md_13, md_14, md_15, md_16, md_17, md_18, md_19, md_20, md_21, md_22, md_23, md_24, md_25, md_26, md_27, md_28, md_29, md_30, md_31, mu_0, mu_3, mu_7, mu_9, mu_12, mu_13, mu_14, mu_15, mu_16, mu_17, mu_18, mu_23, mu_24, mu_26, mu_27, mu_28, mu_29, iI_lt, k_formOf h0 h1 hf, iI_cl]
  simp (disch := first | assumption | omega | exact isB_z | exact isB_o | exact iI_in' (by assumption) (by omega) (by omega) | exact cat_int _ | exact cat_ref _ | exact cat_null | decide) only [↓x_84_72, ↓x_84_73, ↓x_84_74, ↓x_84_75, ↓x_84_76, ↓x_84_77, ↓x_84_78, ↓x_84_79, ↓x_84_82, up1_same, up1_ne, up1_up1, us_0, us_1, us_2, us_3, us_4, us_5, us_6, us_7, us_8, us_9, us_10, us_11, rw_zero, rw_succ, Option.toList_some, Option.toList_none, List.cons_append, List.nil_append, cat_int, cat_ref, cat_null, iI_add, iI_sub, iI_mul, iI_neg, List.length_cons, List.length_nil, ↓reduceIte, va_rf_some, Int.reduceToNat, md_0, md_1, md_2, md_3, md_4, md_5, md_6, md_7, md_8, md_9, md_10, md_11, md_12, md_13, md_14, md_15, md_16, md_17, md_18, md_19, md_20, md_21, md_22, md_23, md_24, md_25, md_26, md_27, md_28, md_29, md_30, md_31, mu_0, mu_3, mu_7, mu_9, mu_12, mu_13, mu_14, mu_15, mu_16, mu_17, mu_18, mu_23, mu_24, mu_26, mu_27, mu_28, mu_29, iI_cl]
theorem lays_loop {A0 : Nat → Nat → Int32} (hK : mK t) (hQ : ∀ (A' : Nat → Nat → Int32), tabL A' → (∀ a, a ≠ 69 → a ≠ 70 → A' a = A0 a) → Q none (t, up1 V 62 (mdR (up1 g 12 1)), A', P)) : ∀ (j n : Nat) (k f : Int) (A : Nat → Nat → Int32), n + j = 68 → 1 ≤ j → (f = 0 ∨ f = 1) → (n : Int) = 2 * k + f → (∀ v : Nat, v < 64 → A 69 v = iI (lyM n v) ∧ A 70 v = iI (lyI n v : Nat)) → (∀ a, a ≠ 69 → a ≠ 70 → A a = A0 a) → Ev (d + 3) 84 47 [.ref 62, .int (iI k), .int (iI f)] [] (t, up1 V 62 (mdR g), A, P) Q := by
  have hK' := hK
  obtain ⟨m0, ⟨m1, l1⟩, ⟨m2, l2⟩, ⟨m3, l3⟩, ⟨m4, l4⟩, ⟨m5, l5⟩, ⟨m6, l6⟩, ⟨m7, l7⟩, ⟨m8, l8⟩, ⟨m9, l9⟩, ⟨m10, l10⟩, ⟨m11, l11⟩, ⟨m12, l12⟩, ⟨m13, l13⟩, ⟨m14, l14⟩, m15, l15⟩ := hK
  intro j
  induction j with
  | zero => intro n k f A _ h; omega
  | succ j ih =>
    intro n k f A hj _ hf hn hT hA
    rw [lays_it hK' (by omega) (by omega) hf]
    have hb := fO_b (k := k) f (by omega) (by omega)
    have hk : k = ((n / 2 : Nat) : Int) := by omega
    have hf2 : f = ((n % 2 : Nat) : Int) := by omega
    have hT' : ∀ v : Nat, v < 64 → up1 (up1 A 69 (upd (A 69) (fO k f).toNat (iI k))) 70 (upd (A 70) (fO k f).toNat (A 70 (fO k f).toNat ||| iI 1 <<< (iI f &&& 31))) 69 v = iI (lyM (n + 1) v) ∧ up1 (up1 A 69 (upd (A 69) (fO k f).toNat (iI k))) 70 (upd (A 70) (fO k f).toNat (A 70 (fO k f).toNat ||| iI 1 <<< (iI f &&& 31))) 70 v = iI (lyI (n + 1) v : Nat) := by
      intro v hv
      rw [up1_ne (by omega), up1_same, up1_same]
      simp only [lyM, lyI]
      rw [← hk, ← hf2]
      by_cases c : v = (fO k f).toNat
      · rw [if_pos c, if_pos c, ← c, upd_same, upd_same]
        refine ⟨rfl, ?_⟩
        rw [(hT v hv).2, shl_6 (by omega) (by omega), show f.toNat = n % 2 by omega]
        exact iI_or _ _
      · rw [if_neg c, if_neg c, upd_ne c, upd_ne c]
        exact hT v hv
    have hA' : ∀ a, a ≠ 69 → a ≠ 70 → up1 (up1 A 69 (upd (A 69) (fO k f).toNat (iI k))) 70 (upd (A 70) (fO k f).toNat (A 70 (fO k f).toNat ||| iI 1 <<< (iI f &&& 31))) a = A0 a := fun a h1 h2 => by rw [up1_ne h2, up1_ne h1]; exact hA a h1 h2
    generalize up1 (up1 A 69 (upd (A 69) (fO k f).toNat (iI k))) 70 (upd (A 70) (fO k f).toNat (A 70 (fO k f).toNat ||| iI 1 <<< (iI f &&& 31))) = A2 at hT' hA' ⊢
    rcases hf with rfl | rfl
    · exact ih (n + 1) k 1 A2 (by omega) (by omega) (Or.inr rfl) (by omega) hT' hA'
    · rw [x_84_47]
      simp (disch := first | assumption | omega | exact isB_z | exact isB_o | exact iI_in' (by assumption) (by omega) (by omega) | exact cat_int _ | exact cat_ref _ | exact cat_null | decide) only [↓x_84_48, ↓x_84_49, ↓x_84_85, ↓x_84_88, up1_same, up1_ne, up1_up1, us_0, us_1, us_2, us_3, us_4, us_5, us_6, us_7, us_8, us_9, us_10, us_11, rw_zero, rw_succ, Option.toList_some, Option.toList_none, List.cons_append, List.nil_append, cat_int, cat_ref, cat_null, iI_add, iI_sub, iI_mul, iI_neg, List.length_cons, List.length_nil, ↓reduceIte, va_rf_some, Int.reduceToNat, md_0, md_1, md_2, md_3, md_4, md_5, md_6, md_7, md_8, md_9, md_10, md_11, md_12, md_13, md_14, md_15, md_16, md_17, md_18, md_19, md_20, md_21, md_22, md_23, md_24, md_25, md_26, md_27, md_28, md_29, md_30, md_31, mu_0, mu_3, mu_7, mu_9, mu_12, mu_13, mu_14, mu_15, mu_16, mu_17, mu_18, mu_23, mu_24, mu_26, mu_27, mu_28, mu_29, iI_lt, Int.reduceAdd, Int.reduceLT, if_false]
      rw [x_84_39]
      by_cases c : k + 1 < 34
      · simp (disch := first | assumption | omega | exact isB_z | exact isB_o | exact iI_in' (by assumption) (by omega) (by omega) | exact cat_int _ | exact cat_ref _ | exact cat_null | decide) only [↓x_84_40, ↓x_84_42, ↓x_84_45, ↓x_84_46, up1_same, up1_ne, up1_up1, us_0, us_1, us_2, us_3, us_4, us_5, us_6, us_7, us_8, us_9, us_10, us_11, rw_zero, rw_succ, Option.toList_some, Option.toList_none, List.cons_append, List.nil_append, cat_int, cat_ref, cat_null, iI_add, iI_sub, iI_mul, iI_neg, List.length_cons, List.length_nil, ↓reduceIte, va_rf_some, Int.reduceToNat, md_0, md_1, md_2, md_3, md_4, md_5, md_6, md_7, md_8, md_9, md_10, md_11, md_12, md_13, md_14, md_15, md_16, md_17, md_18, md_19, md_20, md_21, md_22, md_23, md_24, md_25, md_26, md_27, md_28, md_29, md_30, md_31, mu_0, mu_3, mu_7, mu_9, mu_12, mu_13, mu_14, mu_15, mu_16, mu_17, mu_18, mu_23, mu_24, mu_26, mu_27, mu_28, mu_29, iI_lt, c, if_true]
        exact ih (n + 1) (k + 1) 0 A2 (by omega) (by omega) (Or.inl rfl) (by omega) hT' hA'
      · simp (disch := first | assumption | omega | exact isB_z | exact isB_o | exact iI_in' (by assumption) (by omega) (by omega) | exact cat_int _ | exact cat_ref _ | exact cat_null | decide) only [↓x_84_40, ↓x_84_42, ↓x_84_91, ↓x_84_92, ↓x_84_93, ↓x_84_96, up1_same, up1_ne, up1_up1, us_0, us_1, us_2, us_3, us_4, us_5, us_6, us_7, us_8, us_9, us_10, us_11, rw_zero, rw_succ, Option.toList_some, Option.toList_none, List.cons_append, List.nil_append, cat_int, cat_ref, cat_null, iI_add, iI_sub, iI_mul, iI_neg, List.length_cons, List.length_nil, ↓reduceIte, va_rf_some, Int.reduceToNat, md_0, md_1, md_2, md_3, md_4, md_5, md_6, md_7, md_8, md_9, md_10, md_11, md_12, md_13, md_14, md_15, md_16, md_17, md_18, md_19, md_20, md_21, md_22, md_23, md_24, md_25, md_26, md_27, md_28, md_29, md_30, md_31, mu_0, mu_3, mu_7, mu_9, mu_12, mu_13, mu_14, mu_15, mu_16, mu_17, mu_18, mu_23, mu_24, mu_26, mu_27, mu_28, mu_29, iI_lt, c, if_false]
        refine hQ A2 (fun v hv => ?_) hA'
        have e68 : n + 1 = 68 := by omega
        have := hT' v hv
        rw [e68] at this
        rw [← (ly_tab v hv).1, ← (ly_tab v hv).2]
        exact this
theorem lays_fill (hK : mK t) {A0 : Nat → Nat → Int32} (hQ : ∀ (A' : Nat → Nat → Int32), (∀ v : Nat, v < 64 → A' 69 v = iI (-9) ∧ A' 70 v = iI 0) → (∀ a, a ≠ 69 → a ≠ 70 → A' a = A0 a) → Ev (d + 3) 84 37 [.ref 62, .int (iI 64), .null] [] (t, up1 V 62 (mdR g), A', P) Q) : ∀ (j n : Nat) (A : Nat → Nat → Int32), n + j = 64 → (∀ v : Nat, v < n → A 69 v = iI (-9) ∧ A 70 v = iI 0) → (∀ a, a ≠ 69 → a ≠ 70 → A a = A0 a) → Ev (d + 3) 84 10 [.ref 62, .int (iI n), .null] [] (t, up1 V 62 (mdR g), A, P) Q := by
  obtain ⟨m0, ⟨m1, l1⟩, ⟨m2, l2⟩, ⟨m3, l3⟩, ⟨m4, l4⟩, ⟨m5, l5⟩, ⟨m6, l6⟩, ⟨m7, l7⟩, ⟨m8, l8⟩, ⟨m9, l9⟩, ⟨m10, l10⟩, ⟨m11, l11⟩, ⟨m12, l12⟩, ⟨m13, l13⟩, ⟨m14, l14⟩, m15, l15⟩ := hK
  intro j
  induction j with
  | zero =>
    intro n A hj hT hA
    have : n = 64 := by omega
    subst this
    rw [x_84_10]
    simp (disch := first | assumption | omega | exact isB_z | exact isB_o | exact iI_in' (by assumption) (by omega) (by omega) | exact cat_int _ | exact cat_ref _ | exact cat_null | decide) only [↓x_84_11, ↓x_84_13, up1_same, up1_ne, up1_up1, us_0, us_1, us_2, us_3, us_4, us_5, us_6, us_7, us_8, us_9, us_10, us_11, rw_zero, rw_succ, Option.toList_some, Option.toList_none, List.cons_append, List.nil_append, cat_int, cat_ref, cat_null, iI_add, iI_sub, iI_mul, iI_neg, List.length_cons, List.length_nil, ↓reduceIte, va_rf_some, Int.reduceToNat, md_0, md_1, md_2, md_3, md_4, md_5, md_6, md_7, md_8, md_9, md_10, md_11, md_12, md_13, md_14, md_15, md_16, md_17, md_18, md_19, md_20, md_21, md_22, md_23, md_24, md_25, md_26, md_27, md_28, md_29, md_30, md_31, mu_0, mu_3, mu_7, mu_9, mu_12, mu_13, mu_14, mu_15, mu_16, mu_17, mu_18, mu_23, mu_24, mu_26, mu_27, mu_28, mu_29, iI_lt]
    simp
    exact hQ A hT hA
  | succ j ih =>
    intro n A hj hT hA
    rw [x_84_10]
    have e : (n : Int) < 64 := by omega
    have tn1 : ((n : Nat) : Int).toNat = n := Int.toNat_natCast _
    have ci : (n : Int) + 1 = ((n + 1 : Nat) : Int) := by omega
    simp (disch := first | assumption | omega | exact isB_z | exact isB_o | exact iI_in' (by assumption) (by omega) (by omega) | exact cat_int _ | exact cat_ref _ | exact cat_null | decide) only [↓x_84_11, ↓x_84_13, ↓x_84_16, ↓x_84_17, ↓x_84_20, ↓x_84_21, ↓x_84_23, ↓x_84_24, ↓x_84_25, ↓x_84_28, ↓x_84_29, ↓x_84_30, ↓x_84_31, ↓x_84_34, up1_same, up1_ne, up1_up1, us_0, us_1, us_2, us_3, us_4, us_5, us_6, us_7, us_8, us_9, us_10, us_11, rw_zero, rw_succ, Option.toList_some, Option.toList_none, List.cons_append, List.nil_append, cat_int, cat_ref, cat_null, iI_add, iI_sub, iI_mul, iI_neg, List.length_cons, List.length_nil, ↓reduceIte, va_rf_some, Int.reduceToNat, md_0, md_1, md_2, md_3, md_4, md_5, md_6, md_7, md_8, md_9, md_10, md_11, md_12, md_13, md_14, md_15, md_16, md_17, md_18, md_19, md_20, md_21, md_22, md_23, md_24, md_25, md_26, md_27, md_28, md_29, md_30, md_31, mu_0, mu_3, mu_7, mu_9, mu_12, mu_13, mu_14, mu_15, mu_16, mu_17, mu_18, mu_23, mu_24, mu_26, mu_27, mu_28, mu_29, iI_lt, e, if_true, iI_cl, tn1, ci]
    refine ih (n + 1) _ (by omega) (fun v hv => ?_) (fun a h1 h2 => by rw [up1_ne h2, up1_ne h1]; exact hA a h1 h2)
    rw [up1_ne (by omega), up1_same, up1_same]
    by_cases c : v = n
    · subst c; rw [upd_same, upd_same]; exact ⟨rfl, rfl⟩
    · rw [upd_ne c, upd_ne c]; exact hT v (by omega)
theorem k_lays (hK : mK t) (hl : g 12 = 0 ∨ (g 12 = 1 ∧ tabL A)) (hQ : ∀ (g' : Nat → Int) (A' : Nat → Nat → Int32), g' 12 = 1 → (∀ k, k ≠ 12 → g' k = g k) → tabL A' → (∀ a, a ≠ 69 → a ≠ 70 → A' a = A a) → Q none (t, up1 V 62 (mdR g'), A', P)) : Call (d + 4) 84 [.ref 62] (t, up1 V 62 (mdR g), A, P) Q := by
  have m0 := hK.1
  rcases hl with h | ⟨h, h2⟩
  · simp (disch := first | assumption | omega | exact isB_z | exact isB_o | exact iI_in' (by assumption) (by omega) (by omega) | exact cat_int _ | exact cat_ref _ | exact cat_null | decide) only [c_84, ↓x_84_0, ↓x_84_1, ↓x_84_4, ↓x_84_7, ↓x_84_8, ↓x_84_9, up1_same, up1_ne, up1_up1, us_0, us_1, us_2, us_3, us_4, us_5, us_6, us_7, us_8, us_9, us_10, us_11, rw_zero, rw_succ, Option.toList_some, Option.toList_none, List.cons_append, List.nil_append, cat_int, cat_ref, cat_null, iI_add, iI_sub, iI_mul, iI_neg, List.length_cons, List.length_nil, ↓reduceIte, va_rf_some, Int.reduceToNat, md_0, md_1, md_2, md_3, md_4, md_5, md_6, md_7, md_8, md_9, md_10, md_11, md_12, md_13, md_14, md_15, md_16, md_17, md_18, md_19, md_20, md_21, md_22, md_23, md_24, md_25, md_26, md_27, md_28, md_29, md_30, md_31, mu_0, mu_3, mu_7, mu_9, mu_12, mu_13, mu_14, mu_15, mu_16, mu_17, mu_18, mu_23, mu_24, mu_26, mu_27, mu_28, mu_29, h, iI_eq, if_true]
    refine lays_fill hK (A0 := A) (fun A1 q1 q2 => ?_) 64 0 A (by omega) (fun v hv => absurd hv (by omega)) (fun _ _ _ => rfl)
    simp (disch := first | assumption | omega | exact isB_z | exact isB_o | exact iI_in' (by assumption) (by omega) (by omega) | exact cat_int _ | exact cat_ref _ | exact cat_null | decide) only [↓x_84_37, ↓x_84_38, up1_same, up1_ne, up1_up1, us_0, us_1, us_2, us_3, us_4, us_5, us_6, us_7, us_8, us_9, us_10, us_11, rw_zero, rw_succ, Option.toList_some, Option.toList_none, List.cons_append, List.nil_append, cat_int, cat_ref, cat_null, iI_add, iI_sub, iI_mul, iI_neg, List.length_cons, List.length_nil, ↓reduceIte, va_rf_some, Int.reduceToNat, md_0, md_1, md_2, md_3, md_4, md_5, md_6, md_7, md_8, md_9, md_10, md_11, md_12, md_13, md_14, md_15, md_16, md_17, md_18, md_19, md_20, md_21, md_22, md_23, md_24, md_25, md_26, md_27, md_28, md_29, md_30, md_31, mu_0, mu_3, mu_7, mu_9, mu_12, mu_13, mu_14, mu_15, mu_16, mu_17, mu_18, mu_23, mu_24, mu_26, mu_27, mu_28, mu_29]
    rw [x_84_39]
    simp (disch := first | assumption | omega | exact isB_z | exact isB_o | exact iI_in' (by assumption) (by omega) (by omega) | exact cat_int _ | exact cat_ref _ | exact cat_null | decide) only [↓x_84_40, ↓x_84_42, ↓x_84_45, ↓x_84_46, up1_same, up1_ne, up1_up1, us_0, us_1, us_2, us_3, us_4, us_5, us_6, us_7, us_8, us_9, us_10, us_11, rw_zero, rw_succ, Option.toList_some, Option.toList_none, List.cons_append, List.nil_append, cat_int, cat_ref, cat_null, iI_add, iI_sub, iI_mul, iI_neg, List.length_cons, List.length_nil, ↓reduceIte, va_rf_some, Int.reduceToNat, md_0, md_1, md_2, md_3, md_4, md_5, md_6, md_7, md_8, md_9, md_10, md_11, md_12, md_13, md_14, md_15, md_16, md_17, md_18, md_19, md_20, md_21, md_22, md_23, md_24, md_25, md_26, md_27, md_28, md_29, md_30, md_31, mu_0, mu_3, mu_7, mu_9, mu_12, mu_13, mu_14, mu_15, mu_16, mu_17, mu_18, mu_23, mu_24, mu_26, mu_27, mu_28, mu_29, iI_lt, Int.reduceLT, if_true]
    refine lays_loop (g := g) hK (A0 := A) (fun A2 r1 r2 => ?_) 68 0 0 0 A1 (by omega) (by omega) (Or.inl rfl) (by omega) (fun v hv => q1 v hv) q2
    exact hQ _ A2 (up1_same _ _ _) (fun k hk => up1_ne hk) r1 r2
  · simp (disch := first | assumption | omega | exact isB_z | exact isB_o | exact iI_in' (by assumption) (by omega) (by omega) | exact cat_int _ | exact cat_ref _ | exact cat_null | decide) only [c_84, ↓x_84_0, ↓x_84_1, ↓x_84_4, ↓x_84_7, up1_same, up1_ne, up1_up1, us_0, us_1, us_2, us_3, us_4, us_5, us_6, us_7, us_8, us_9, us_10, us_11, rw_zero, rw_succ, Option.toList_some, Option.toList_none, List.cons_append, List.nil_append, cat_int, cat_ref, cat_null, iI_add, iI_sub, iI_mul, iI_neg, List.length_cons, List.length_nil, ↓reduceIte, va_rf_some, Int.reduceToNat, md_0, md_1, md_2, md_3, md_4, md_5, md_6, md_7, md_8, md_9, md_10, md_11, md_12, md_13, md_14, md_15, md_16, md_17, md_18, md_19, md_20, md_21, md_22, md_23, md_24, md_25, md_26, md_27, md_28, md_29, md_30, md_31, mu_0, mu_3, mu_7, mu_9, mu_12, mu_13, mu_14, mu_15, mu_16, mu_17, mu_18, mu_23, mu_24, mu_26, mu_27, mu_28, mu_29, h, iI_eq]
    simp
    exact hQ g A h (fun _ _ => rfl) h2 (fun _ _ _ => rfl)
end
