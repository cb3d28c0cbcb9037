/-! turned: one bit alone -/
theorem lg_self (w : Int64) : lg_cmp w w = iI 0 := by
  unfold lg_cmp
  rw [if_neg (Int64.lt_irrefl), if_pos rfl, iI0]
theorem blO_top (g : Nat → Int) (u : Int) (m : Nat) : ∀ (k p : Nat) (b : Int × Int), p + k ≤ 32 → (0 ≤ b.1 ∧ b.1 ≤ 6 * p ∧ -9 ≤ b.2 ∧ b.2 < 300) → (blO g u m 0 p k b).1 ≤ 6 * (p + k) := by
  intro k
  induction k with
  | zero => intro p b _ h; show b.1 ≤ _; omega
  | succ k ih =>
    intro p b hp h
    have h1 := blI_b g m 0 (wkG g u p) p 6 0 b ⟨h.1, by omega, h.2.2.1, h.2.2.2⟩ (by omega) (by omega) (by omega)
    have := ih (p + 1) (blI g m 0 (wkG g u p) p 0 6 b) (by omega) ⟨h1.1, by omega, h1.2.2.1, h1.2.2.2⟩
    show (blO g u m 0 (p + 1) k (blI g m 0 (wkG g u p) p 0 6 b)).1 ≤ _
    omega
theorem rBl_top {X : aW} (hX : wf X) : (rBl X 0 0).1 ≤ 1000 := by
  have h32 := hX.1
  have hf := rFi_b (f := 0) 0 hX
  have hm : (rm X 0).toNat = X.1.length := by rw [rm_0, Int.toNat_natCast]
  rw [rm_0] at hf
  have := blO_top (rg X 0) (-1) (rm X 0).toNat (if rFi X 0 0 = -9 then (rm X 0).toNat else (rFi X 0 0).toNat + 1) 0 (0, -9) (by rw [hm]; split <;> omega) ⟨Int.le_refl _, by show (0 : Int) ≤ 6 * ((0 : Nat) : Int); omega, by show (-9 : Int) ≤ -9; omega, by show (-9 : Int) < 300; omega⟩
  have e : (if rFi X 0 0 = -9 then (rm X 0).toNat else (rFi X 0 0).toNat + 1) ≤ 33 := by rw [hm]; split <;> omega
  have h2 : (rBl X 0 0).1 ≤ 6 * (((0 : Nat) : Int) + ((if rFi X 0 0 = -9 then (rm X 0).toNat else (rFi X 0 0).toNat + 1 : Nat) : Int)) := this
  omega
section
variable {d : Nat} {t : mL} {V : Nat → Nat → Value} {A : Nat → Nat → Int32} {P : Nat → Nat → Option Nat} {μ : mM} {Q : Option Value → mM → Prop} {S : aS} {xs : Nat → Int32}
theorem k_lturned {b : Int} (hK : exK t) (hJ : lwJ xs t V A P S) (hs : strt S.X) (h0 : 0 ≤ b) (h1 : b < S.X.1.length * 6) (hQ : ∀ S' : aS, S'.X = S.X → S'.I = S.I → S'.T = S.T → hqJ xs t Q (1, S')) : Call (d + 22) 80 [.ref 3, .int (iI b), .long (taF S)] (t, V, A, P) Q := by
  have k0 := hK.1
  have hX := hJ.wo.1
  have h32 := hX.1
  have hX' := wf_tX hX h0 h1
  obtain ⟨f1, f2, f3, f4⟩ := blame_sent hX hs h0 h1
  have f5 := rBl_top hX'
  have f6 := rFi_b (f := 0) 0 hX'
  rw [rm_0] at f6
  have hl' : (tX S.X b).1.length = S.X.1.length := rfl
  rw [hl'] at f6
  have e1 : aFlips S b = (btA (tX S.X b).2 b, aS.mk (tX S.X b) (pu S.U S.X) S.I S.T) := by unfold aFlips; rw [if_pos ⟨h0, h1⟩]
  obtain ⟨S1, hS1⟩ : ∃ S1 : aS, S1 = aS.mk (tX S.X b) (pu S.U S.X) S.I S.T := ⟨_, rfl⟩
  have hS1X : S1.X = tX S.X b := by rw [hS1]
  have e2 : aFlips S1 b = (btA (tX S1.X b).2 b, aS.mk (tX S1.X b) (pu S1.U S1.X) S1.I S1.T) := by unfold aFlips; rw [if_pos ⟨h0, by rw [hS1X, hl']; exact h1⟩]
  have c3 : aCount S1 3 = 1 := by rw [hS1]; exact turned_1 hX hs h0 h1
  have r1 : aRead S1.X 0 0 1 = rFi (tX S.X b) 0 0 := by rw [hS1X, aRead_0 (by omega), if_neg (by omega), if_pos rfl]
  have r3 : aRead S1.X 0 0 3 = (rBl (tX S.X b) 0 0).1 := by rw [hS1X, aRead_0 (by omega), if_neg (by omega), if_neg (by omega), if_neg (by omega), if_pos rfl]
  have r4 : aRead S1.X 0 0 4 = (rBl (tX S.X b) 0 0).2 := by rw [hS1X, aRead_0 (by omega), if_neg (by omega), if_neg (by omega), if_neg (by omega), if_neg (by omega), if_pos rfl]
  have r5 : aRead S1.X 0 0 5 = if rFi (tX S.X b) 0 0 = -9 then -2000000 else rFi (tX S.X b) 0 0 - (rBl (tX S.X b) 0 0).2 / 6 := by
    rw [hS1X, aRead_0 (by omega), if_neg (by omega), if_neg (by omega), if_neg (by omega), if_neg (by omega), if_neg (by omega), Int.sub_zero]
    by_cases c : rFi (tX S.X b) 0 0 = -9
    · rw [if_pos (Or.inl c), if_pos c]
    · rw [if_neg (by omega), if_neg c]
  generalize rFi (tX S.X b) 0 0 = fi at *
  generalize rBl (tX S.X b) 0 0 = B at *
  -- the end
  have hend : ∀ (V : Nat → Nat → Value) (A : Nat → Nat → Int32) (P : Nat → Nat → Option Nat), lwJ xs t V A P S1 → Ev (d + 21) 80 122 [.ref 3, .int (iI b), .long (taF S), .null, .int (iI fi), .int (iI 1), .int (iI B.2)] [] (t, V, A, P) Q := fun V A P hJ => by
    simp (disch := first | assumption | omega | exact isB_z | exact isB_o | exact iI_in' (by assumption) (by omega) (by omega) | exact cat_int _ | exact cat_ref _ | exact cat_null | decide) only [↓x_80_122, ↓x_80_123, ↓x_80_126, ↓x_80_127, ↓x_80_129, ↓x_80_130, ↓x_80_131, up1_same, up1_ne, up1_up1, us_0, us_1, us_2, us_3, us_4, us_5, us_6, us_7, us_8, us_9, us_10, us_11, rw_zero, rw_succ, Option.toList_some, Option.toList_none, List.cons_append, List.nil_append, cat_int, cat_ref, cat_null, iI_add, iI_sub, iI_mul, iI_neg, List.length_cons, List.length_nil, ↓reduceIte, va_rf_some]
    refine kJ_flips hK hJ (by omega) (fun V A P hJ => ?_)
    rw [e2] at hJ ⊢
    have hx2 : tX S1.X b = S.X := by rw [hS1X]; exact tX_tX hX h0 h1
    have ht : taF (aS.mk (tX S1.X b) (pu S1.U S1.X) S1.I S1.T) = taF S := taF_X hx2
    simp (disch := first | assumption | omega | exact isB_z | exact isB_o | exact iI_in' (by assumption) (by omega) (by omega) | exact cat_int _ | exact cat_ref _ | exact cat_null | decide) only [↓x_80_134, ↓x_80_135, ↓x_80_137, ↓x_80_140, ↓x_80_141, up1_same, up1_ne, up1_up1, us_0, us_1, us_2, us_3, us_4, us_5, us_6, us_7, us_8, us_9, us_10, us_11, rw_zero, rw_succ, Option.toList_some, Option.toList_none, List.cons_append, List.nil_append, cat_int, cat_ref, cat_null, iI_add, iI_sub, iI_mul, iI_neg, List.length_cons, List.length_nil, ↓reduceIte, va_rf_some, iI_eq, show ¬ (1 : Int) = 0 by omega]
    refine k_tale hK hJ (fun V A P hJ => ?_)
    rw [ht]
    simp (disch := first | assumption | omega | exact isB_z | exact isB_o | exact iI_in' (by assumption) (by omega) (by omega) | exact cat_int _ | exact cat_ref _ | exact cat_null | decide) only [↓x_80_144, ↓x_80_145, ↓x_80_146, ↓x_80_149, ↓x_80_150, ↓x_80_153, ↓x_80_154, up1_same, up1_ne, up1_up1, us_0, us_1, us_2, us_3, us_4, us_5, us_6, us_7, us_8, us_9, us_10, us_11, rw_zero, rw_succ, Option.toList_some, Option.toList_none, List.cons_append, List.nil_append, cat_int, cat_ref, cat_null, iI_add, iI_sub, iI_mul, iI_neg, List.length_cons, List.length_nil, ↓reduceIte, va_rf_some, lg_self]
    exact hQ _ hx2 (by rw [hS1]) (by rw [hS1]) V A P hJ
  have hmid : ∀ (V : Nat → Nat → Value) (A : Nat → Nat → Int32) (P : Nat → Nat → Option Nat), lwJ xs t V A P S1 → Ev (d + 21) 80 50 [.ref 3, .int (iI b), .long (taF S), .null, .int (iI fi), .null, .null] [] (t, V, A, P) Q := fun V A P hJ => by
    simp (disch := first | assumption | omega | exact isB_z | exact isB_o | exact iI_in' (by assumption) (by omega) (by omega) | exact cat_int _ | exact cat_ref _ | exact cat_null | decide) only [↓x_80_50, ↓x_80_51, ↓x_80_54, ↓x_80_55, ↓x_80_57, ↓x_80_58, ↓x_80_59, ↓x_80_60, ↓x_80_61, up1_same, up1_ne, up1_up1, us_0, us_1, us_2, us_3, us_4, us_5, us_6, us_7, us_8, us_9, us_10, us_11, rw_zero, rw_succ, Option.toList_some, Option.toList_none, List.cons_append, List.nil_append, cat_int, cat_ref, cat_null, iI_add, iI_sub, iI_mul, iI_neg, List.length_cons, List.length_nil, ↓reduceIte, va_rf_some]
    refine kJ_read hK hJ (by omega) (by omega) (by omega) (fun V A P hJ => ?_)
    have g1 : ¬ B.2 < 0 := by omega
    have g2 : ¬ b < B.2 := by omega
    by_cases c : fi = -9
    · simp (disch := first | assumption | omega | exact isB_z | exact isB_o | exact iI_in' (by assumption) (by omega) (by omega) | exact cat_int _ | exact cat_ref _ | exact cat_null | decide) only [↓x_80_64, ↓x_80_66, ↓x_80_68, ↓x_80_71, ↓x_80_73, ↓x_80_76, ↓x_80_78, ↓x_80_79, ↓x_80_82, ↓x_80_84, ↓x_80_86, ↓x_80_89, ↓x_80_90, ↓x_80_91, ↓x_80_92, ↓x_80_93, up1_same, up1_ne, up1_up1, us_0, us_1, us_2, us_3, us_4, us_5, us_6, us_7, us_8, us_9, us_10, us_11, rw_zero, rw_succ, Option.toList_some, Option.toList_none, List.cons_append, List.nil_append, cat_int, cat_ref, cat_null, iI_add, iI_sub, iI_mul, iI_neg, List.length_cons, List.length_nil, ↓reduceIte, va_rf_some, iI_eq, iI_lt, r4, g1, g2, c, show ¬ (1 : Int) = 0 by omega]
      refine kJ_read hK hJ (by omega) (by omega) (by omega) (fun V A P hJ => ?_)
      rw [if_pos c] at r5
      simp (disch := first | assumption | omega | exact isB_z | exact isB_o | exact iI_in' (by assumption) (by omega) (by omega) | exact cat_int _ | exact cat_ref _ | exact cat_null | decide) only [↓x_80_96, ↓x_80_98, ↓x_80_101, up1_same, up1_ne, up1_up1, us_0, us_1, us_2, us_3, us_4, us_5, us_6, us_7, us_8, us_9, us_10, us_11, rw_zero, rw_succ, Option.toList_some, Option.toList_none, List.cons_append, List.nil_append, cat_int, cat_ref, cat_null, iI_add, iI_sub, iI_mul, iI_neg, List.length_cons, List.length_nil, ↓reduceIte, va_rf_some, r5]
      rw [← c]
      exact hend V A P hJ
    · simp (disch := first | assumption | omega | exact isB_z | exact isB_o | exact iI_in' (by assumption) (by omega) (by omega) | exact cat_int _ | exact cat_ref _ | exact cat_null | decide) only [↓x_80_64, ↓x_80_66, ↓x_80_68, ↓x_80_71, ↓x_80_73, ↓x_80_76, ↓x_80_78, ↓x_80_79, ↓x_80_82, ↓x_80_84, ↓x_80_86, ↓x_80_104, ↓x_80_105, ↓x_80_106, ↓x_80_107, ↓x_80_108, up1_same, up1_ne, up1_up1, us_0, us_1, us_2, us_3, us_4, us_5, us_6, us_7, us_8, us_9, us_10, us_11, rw_zero, rw_succ, Option.toList_some, Option.toList_none, List.cons_append, List.nil_append, cat_int, cat_ref, cat_null, iI_add, iI_sub, iI_mul, iI_neg, List.length_cons, List.length_nil, ↓reduceIte, va_rf_some, iI_eq, iI_lt, r4, g1, g2, c, show ¬ (1 : Int) = 0 by omega]
      refine kJ_read hK hJ (by omega) (by omega) (by omega) (fun V A P hJ => ?_)
      rw [if_neg c] at r5
      simp (disch := first | assumption | omega | exact isB_z | exact isB_o | exact iI_in' (by assumption) (by omega) (by omega) | exact cat_int _ | exact cat_ref _ | exact cat_null | decide) only [↓x_80_111, ↓x_80_113, ↓x_80_115, ↓x_80_117, ↓x_80_118, ↓x_80_119, up1_same, up1_ne, up1_up1, us_0, us_1, us_2, us_3, us_4, us_5, us_6, us_7, us_8, us_9, us_10, us_11, rw_zero, rw_succ, Option.toList_some, Option.toList_none, List.cons_append, List.nil_append, cat_int, cat_ref, cat_null, iI_add, iI_sub, iI_mul, iI_neg, List.length_cons, List.length_nil, ↓reduceIte, va_rf_some, r5, iI_div, iI_n0]
      exact hend V A P hJ
  simp (disch := first | assumption | omega | exact isB_z | exact isB_o | exact iI_in' (by assumption) (by omega) (by omega) | exact cat_int _ | exact cat_ref _ | exact cat_null | decide) only [c_80, ↓x_80_0, ↓x_80_1, ↓x_80_2]
  refine kJ_flips hK hJ (by omega) (fun V A P hJ => ?_)
  rw [e1, ← hS1] at hJ ⊢
  simp (disch := first | assumption | omega | exact isB_z | exact isB_o | exact iI_in' (by assumption) (by omega) (by omega) | exact cat_int _ | exact cat_ref _ | exact cat_null | decide) only [↓x_80_5, ↓x_80_6, ↓x_80_7, ↓x_80_8, ↓x_80_9, ↓x_80_10, up1_same, up1_ne, up1_up1, us_0, us_1, us_2, us_3, us_4, us_5, us_6, us_7, us_8, us_9, us_10, us_11, rw_zero, rw_succ, Option.toList_some, Option.toList_none, List.cons_append, List.nil_append, cat_int, cat_ref, cat_null, iI_add, iI_sub, iI_mul, iI_neg, List.length_cons, List.length_nil, ↓reduceIte, va_rf_some]
  refine kJ_read hK hJ (by omega) (by omega) (by omega) (fun V A P hJ => ?_)
  simp (disch := first | assumption | omega | exact isB_z | exact isB_o | exact iI_in' (by assumption) (by omega) (by omega) | exact cat_int _ | exact cat_ref _ | exact cat_null | decide) only [↓x_80_13, ↓x_80_15, ↓x_80_16, ↓x_80_17, up1_same, up1_ne, up1_up1, us_0, us_1, us_2, us_3, us_4, us_5, us_6, us_7, us_8, us_9, us_10, us_11, rw_zero, rw_succ, Option.toList_some, Option.toList_none, List.cons_append, List.nil_append, cat_int, cat_ref, cat_null, iI_add, iI_sub, iI_mul, iI_neg, List.length_cons, List.length_nil, ↓reduceIte, va_rf_some, r1]
  refine kJ_count hK hJ (by omega) (fun V A P hJ => ?_)
  simp (disch := first | assumption | omega | exact isB_z | exact isB_o | exact iI_in' (by assumption) (by omega) (by omega) | exact cat_int _ | exact cat_ref _ | exact cat_null | decide) only [↓x_80_20, ↓x_80_21, ↓x_80_24, ↓x_80_25, ↓x_80_26, ↓x_80_27, ↓x_80_28, up1_same, up1_ne, up1_up1, us_0, us_1, us_2, us_3, us_4, us_5, us_6, us_7, us_8, us_9, us_10, us_11, rw_zero, rw_succ, Option.toList_some, Option.toList_none, List.cons_append, List.nil_append, cat_int, cat_ref, cat_null, iI_add, iI_sub, iI_mul, iI_neg, List.length_cons, List.length_nil, ↓reduceIte, va_rf_some, c3]
  refine kJ_read hK hJ (by omega) (by omega) (by omega) (fun V A P hJ => ?_)
  have g3 : 0 < B.1 := by omega
  by_cases c : fi = -9
  · simp (disch := first | assumption | omega | exact isB_z | exact isB_o | exact iI_in' (by assumption) (by omega) (by omega) | exact cat_int _ | exact cat_ref _ | exact cat_null | decide) only [↓x_80_31, ↓x_80_34, ↓x_80_36, ↓x_80_38, up1_same, up1_ne, up1_up1, us_0, us_1, us_2, us_3, us_4, us_5, us_6, us_7, us_8, us_9, us_10, us_11, rw_zero, rw_succ, Option.toList_some, Option.toList_none, List.cons_append, List.nil_append, cat_int, cat_ref, cat_null, iI_add, iI_sub, iI_mul, iI_neg, List.length_cons, List.length_nil, ↓reduceIte, va_rf_some, iI_eq, iI_lt, r3, g3, c]
    rw [← c]
    exact hmid V A P hJ
  · have g4 : ¬ fi < b / 6 := by omega
    simp (disch := first | assumption | omega | exact isB_z | exact isB_o | exact iI_in' (by assumption) (by omega) (by omega) | exact cat_int _ | exact cat_ref _ | exact cat_null | decide) only [↓x_80_31, ↓x_80_34, ↓x_80_36, ↓x_80_38, ↓x_80_41, ↓x_80_43, ↓x_80_44, ↓x_80_46, ↓x_80_47, up1_same, up1_ne, up1_up1, us_0, us_1, us_2, us_3, us_4, us_5, us_6, us_7, us_8, us_9, us_10, us_11, rw_zero, rw_succ, Option.toList_some, Option.toList_none, List.cons_append, List.nil_append, cat_int, cat_ref, cat_null, iI_add, iI_sub, iI_mul, iI_neg, List.length_cons, List.length_nil, ↓reduceIte, va_rf_some, iI_eq, iI_lt, r3, g3, c, iI_div, iI_n0, g4]
    exact hmid V A P hJ
end
