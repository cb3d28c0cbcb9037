/-! THE LAW, on the small machine -/
theorem law_pure (L : Nat) (xs : Nat → Int32) (hL : L ≤ 2560) : Ev 40 131 0 [.ref 2, .null, .null, .null] [] (mu0 L xs) (fun v μ' => v = some (.int 1) ∧ μ'.1.1 ≤ 600000 ∧ μ'.1.2.1 ≤ 7302250) := by
  obtain ⟨Q, hQd⟩ : ∃ Q : Option Value → mM → Prop, Q = fun v μ' => v = some (.int 1) ∧ μ'.1.1 ≤ 600000 ∧ μ'.1.2.1 ≤ 7302250 := ⟨_, rfl⟩
  rw [← hQd]
  obtain ⟨K0, hK0⟩ : ∃ K0 : Nat → Nat × Nat, K0 = fun i => if i = 0 then (10, 34) else if i = 1 then (10, 64) else if i = 2 then (10, L) else (99, 0) := ⟨_, rfl⟩
  obtain ⟨A0, hA0⟩ : ∃ A0 : Nat → Nat → Int32, A0 = fun i j => if i = 0 then iI (asA.getD j 0) else if i = 1 then iI (asM.getD j 0) else xs j := ⟨_, rfl⟩
  have hmu : mu0 L xs = ((3, 0, K0), (fun _ _ => .null), A0, (fun _ _ => none)) := by rw [hK0, hA0]; rfl
  rw [hmu]
  have a0 : ∀ j, A0 0 j = iI (asA.getD j 0) := fun j => by rw [hA0]; rfl
  have a1 : ∀ j, A0 1 j = iI (asM.getD j 0) := fun j => by rw [hA0]; rfl
  have a2 : ∀ j, A0 2 j = xs j := fun j => by rw [hA0]; rfl
  have b0 : K0 0 = (10, 34) := by rw [hK0]; rfl
  have b1 : K0 1 = (10, 64) := by rw [hK0]; rfl
  have b2 : K0 2 = (10, L) := by rw [hK0]; rfl
  clear hA0 hK0 hmu
  simp (disch := first | assumption | omega | exact isB_z | exact isB_o | exact cat_int _ | exact cat_ref _ | exact cat_null | exact up1_same _ _ _ | exact congrArg Prod.fst (up1_same _ _ _) | exact kd_i (congrArg Prod.fst (up1_same _ _ _)) | (refine kd_i ?_; (repeat refine up_n (by omega) ?_); assumption) | ((repeat refine up_n (by omega) ?_); assumption) | decide) only [↓x_131_0, ↓x_131_3, up1_same, up1_ne, up1_up1, us_0, us_1, us_2, us_3, us_4, us_5, us_6, us_7, us_8, us_9, us_10, us_11, rw_zero, rw_succ, Option.toList_some, Option.toList_none, List.cons_append, List.nil_append, cat_int, cat_ref, cat_null, iI_add, iI_sub, iI_mul, iI_neg, List.length_cons, List.length_nil, ↓reduceIte, va_rf_some]
  simp (disch := first | assumption | omega | exact isB_z | exact isB_o | exact cat_int _ | exact cat_ref _ | exact cat_null | exact up1_same _ _ _ | exact congrArg Prod.fst (up1_same _ _ _) | exact kd_i (congrArg Prod.fst (up1_same _ _ _)) | (refine kd_i ?_; (repeat refine up_n (by omega) ?_); assumption) | ((repeat refine up_n (by omega) ?_); assumption) | decide) only [↓x_131_4, up1_same, up1_ne, up1_up1, us_0, us_1, us_2, us_3, us_4, us_5, us_6, us_7, us_8, us_9, us_10, us_11, rw_zero, rw_succ, Option.toList_some, Option.toList_none, List.cons_append, List.nil_append, cat_int, cat_ref, cat_null, iI_add, iI_sub, iI_mul, iI_neg, List.length_cons, List.length_nil, ↓reduceIte, va_rf_some]
  refine k_EI (d := 37) (by rw [up1_same]) (up1_same _ _ _) (fun V1 A1 K1 P1 q1 q2 q3 q4 => ?_)
  simp (disch := first | assumption | omega | exact isB_z | exact isB_o | exact cat_int _ | exact cat_ref _ | exact cat_null | exact up1_same _ _ _ | exact congrArg Prod.fst (up1_same _ _ _) | exact kd_i (congrArg Prod.fst (up1_same _ _ _)) | (refine kd_i ?_; (repeat refine up_n (by omega) ?_); assumption) | ((repeat refine up_n (by omega) ?_); assumption) | decide) only [↓x_131_7, ↓x_131_8, ↓x_131_11, up1_same, up1_ne, up1_up1, us_0, us_1, us_2, us_3, us_4, us_5, us_6, us_7, us_8, us_9, us_10, us_11, rw_zero, rw_succ, Option.toList_some, Option.toList_none, List.cons_append, List.nil_append, cat_int, cat_ref, cat_null, iI_add, iI_sub, iI_mul, iI_neg, List.length_cons, List.length_nil, ↓reduceIte, va_rf_some]
  simp (disch := first | assumption | omega | exact isB_z | exact isB_o | exact cat_int _ | exact cat_ref _ | exact cat_null | exact up1_same _ _ _ | exact congrArg Prod.fst (up1_same _ _ _) | exact kd_i (congrArg Prod.fst (up1_same _ _ _)) | (refine kd_i ?_; (repeat refine up_n (by omega) ?_); assumption) | ((repeat refine up_n (by omega) ?_); assumption) | decide) only [↓x_131_12, up1_same, up1_ne, up1_up1, us_0, us_1, us_2, us_3, us_4, us_5, us_6, us_7, us_8, us_9, us_10, us_11, rw_zero, rw_succ, Option.toList_some, Option.toList_none, List.cons_append, List.nil_append, cat_int, cat_ref, cat_null, iI_add, iI_sub, iI_mul, iI_neg, List.length_cons, List.length_nil, ↓reduceIte, va_rf_some]
  refine k_MI (d := 38) (by rw [up1_same]) (up1_same _ _ _) (fun V2 A2 K2 r1 r2 r3 r4 r5 r6 => ?_)
  simp (disch := first | assumption | omega | exact isB_z | exact isB_o | exact cat_int _ | exact cat_ref _ | exact cat_null | exact up1_same _ _ _ | exact congrArg Prod.fst (up1_same _ _ _) | exact kd_i (congrArg Prod.fst (up1_same _ _ _)) | (refine kd_i ?_; (repeat refine up_n (by omega) ?_); assumption) | ((repeat refine up_n (by omega) ?_); assumption) | decide) only [↓x_131_15, ↓x_131_16, ↓x_131_17, up1_same, up1_ne, up1_up1, us_0, us_1, us_2, us_3, us_4, us_5, us_6, us_7, us_8, us_9, us_10, us_11, rw_zero, rw_succ, Option.toList_some, Option.toList_none, List.cons_append, List.nil_append, cat_int, cat_ref, cat_null, iI_add, iI_sub, iI_mul, iI_neg, List.length_cons, List.length_nil, ↓reduceIte, va_rf_some]
  have hK2 : ∀ a, a < 62 → K2 a = K1 a := fun a ha => by rw [r2 a (by omega), up1_ne (by omega)]
  have hk : ∀ a, a < 3 → K2 a = K0 a := fun a ha => by rw [hK2 a (by omega), q2 a (by omega), up1_ne (by omega)]
  have hA : ∀ a, a < 3 → A2 a = A0 a := fun a ha => by rw [r5 a (by omega), q3 a ha]
  have hex := exK_eq (N' := 78) (S' := 0 + 12 + 1220 + 32 + 2694) q1 hK2
  refine lw_loop (xs := xs) (L := L) hex r1 ⟨?_, ?_⟩ hL (fun V' A' P' => ?_) (L + 1) 0 V2 A2 P1 (by omega) (by omega) ⟨_, _, _, q4.frm (fun a ha => ?_) r5, r3, r6, ⟨?_, ?_, ?_, ?_, fun j => ?_, fun j => ?_⟩, fun j => ?_⟩
  · show (K2 2).1 = 10; rw [hk 2 (by omega), b2]
  · show (K2 2).2 = L; rw [hk 2 (by omega), b2]
  · rw [hQd]
    exact ⟨by rw [iI_1], by show 78 ≤ 600000; decide, by show 0 + 12 + 1220 + 32 + 2694 ≤ 7302250; decide⟩
  · rw [r4 a (by omega), up1_ne (by omega)]
  · show (K2 0).1 = 10; rw [hk 0 (by omega), b0]
  · show (K2 1).1 = 10; rw [hk 1 (by omega), b1]
  · show (K2 0).2 = 34; rw [hk 0 (by omega), b0]
  · show (K2 1).2 = 64; rw [hk 1 (by omega), b1]
  · rw [hA 0 (by omega)]; exact a0 j
  · rw [hA 1 (by omega)]; exact a1 j
  · rw [hA 2 (by omega)]; exact a2 j
