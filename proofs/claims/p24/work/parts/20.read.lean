/-! READ and CUTS, asked of the class -/
theorem fsF_b (g : Nat → Int) (u : Int) : ∀ (k p : Nat) (fi : Int), (fi = -9 ∨ (0 ≤ fi ∧ fi < p)) → fsF g u fi p k = -9 ∨ (0 ≤ fsF g u fi p k ∧ fsF g u fi p k < (p + k : Nat)) := by
  intro k
  induction k with
  | zero => intro p fi h; exact h
  | succ k ih =>
    intro p fi h
    have := ih (p + 1) (if brG g u p = 0 then fi else if fi = -9 then p else fi) (by
      split
      · omega
      · split <;> omega)
    rw [show p + (k + 1) = p + 1 + k by omega]
    exact this
theorem blI_l (g : Nat → Int) (m : Nat) (f : Int) (S : Int × wS) (p : Nat) : ∀ (k i : Nat) (b : Int × Int), (b.2 = -9 ∨ (f ≤ b.2 ∧ b.2 < 300)) → i + k = 6 → (0 ≤ f ∧ f ≤ 5) → p < 32 → (blI g m f S p i k b).2 = -9 ∨ (f ≤ (blI g m f S p i k b).2 ∧ (blI g m f S p i k b).2 < 300) := by
  intro k
  induction k with
  | zero => intro i b h _ _ _; exact h
  | succ k ih =>
    intro i b h hk hf hp
    simp only [blI]
    refine ih (i + 1) _ ?_ (by omega) hf hp
    split
    · simp only
      split <;> omega
    · exact h
theorem blO_l (g : Nat → Int) (u : Int) (m : Nat) (f : Int) (hf : 0 ≤ f ∧ f ≤ 5) : ∀ (k p : Nat) (b : Int × Int), (b.2 = -9 ∨ (f ≤ b.2 ∧ b.2 < 300)) → p + k ≤ 32 → (blO g u m f p k b).2 = -9 ∨ (f ≤ (blO g u m f p k b).2 ∧ (blO g u m f p k b).2 < 300) := by
  intro k
  induction k with
  | zero => intro p b h _; exact h
  | succ k ih =>
    intro p b h hp
    exact ih (p + 1) _ (blI_l g m f _ p 6 0 b h (by omega) hf (by omega)) (by omega)
def rFi (X : aW) (f u : Int) : Int := fsF (rg X f) (sO u) (-9) 0 (rm X f).toNat
def rBk (X : aW) (f u : Int) : Int := bkF (rg X f) (sO u) 0 (rm X f).toNat
def rBl (X : aW) (f u : Int) : Int × Int := blO (rg X f) (sO u) (rm X f).toNat f 0 (if rFi X f u = -9 then (rm X f).toNat else (rFi X f u).toNat + 1) (0, -9)
def aRead (X : aW) (f u w : Int) : Int :=
  if 0 ≤ f ∧ f < 6 ∧ 0 ≤ u ∧ u ≤ 1 ∧ 0 ≤ w ∧ w ≤ 5 then
    (if w = 0 then rm X f else if w = 1 then rFi X f u else if w = 2 then rBk X f u else if w = 3 then (rBl X f u).1 else if w = 4 then (rBl X f u).2 else if rFi X f u = -9 ∨ (rBl X f u).2 = -9 then -2000000 else rFi X f u - ((rBl X f u).2 - f) / 6)
  else -1000000
theorem rFi_b {X : aW} {f : Int} (u : Int) (hX : wf X) : rFi X f u = -9 ∨ (0 ≤ rFi X f u ∧ rFi X f u < rm X f) := by
  have h := fsF_b (rg X f) (sO u) (rm X f).toNat 0 (-9) (Or.inl rfl)
  have hm := rm_b (f := f) hX
  unfold rFi
  omega
section
variable {d : Nat} {t : mL} {V : Nat → Nat → Value} {A : Nat → Nat → Int32} {P : Nat → Nat → Option Nat} {μ : mM} {Q : Option Value → mM → Prop} {S : aS} {e : Nat → Nat}
theorem fq_rf (h : scr V) : fq V V A A := ⟨fun _ _ => rfl, fun _ _ => rfl, h⟩
/-- load and check -/
theorem k_checkX {f u : Int} (hK : exK t) (hT : tabs t A) (hX : wf S.X) (hR : ∃ fi br bl lo, rdV V 13 f (sO u) (rm S.X f) fi br bl lo) (hG : rdH A 13 (rm S.X f) (rg S.X f)) (hs : scr V) (hQ : ∀ (V' : Nat → Nat → Value), (∃ bl lo, rdV V' 13 f (sO u) (rm S.X f) (rFi S.X f u) (rBk S.X f u) bl lo) → fq V V' A A → Q none (t, V', A, P)) : Call (d + 7) 16 [.ref 13] (t, V, A, P) Q := by
  obtain ⟨fi, br, bl, lo, v1, v2, v3⟩ := hR
  refine k_check hT hK.2.2.2.2.2.2.2.1 v1 v2 hG (sO_b u) (fun V' q1 q2 q3 => ?_)
  have q4 : ∃ s W, V' (13 + 3) = wkW s W := by rw [q3 _ (by omega) (by omega)]; exact v3
  exact hQ V' ⟨bl, lo, q1, q2, q4⟩ (fq_rd hs (fun a h1 h2 _ => q3 a h1 h2) ⟨_, _, _, _, _, _, _, q1⟩ q2 q4)
set_option maxHeartbeats 400000 in
theorem k_read {f u w : Int} (hK : exK t) (hT : tabs t A) (h : RX V A P S e) (h1 : -2147483648 ≤ f ∧ f < 2147483648) (h2 : -2147483648 ≤ u ∧ u < 2147483648) (h4 : -2147483648 ≤ w ∧ w < 2147483648)
    (hQ : ∀ (V' : Nat → Nat → Value) (A' : Nat → Nat → Int32), fq V V' A A' → Q (some (.int (iI (aRead S.X f u w)))) (t, V', A', P)) : Call (d + 9) 53 [.ref 3, .int (iI f), .int (iI u), .int (iI w)] (t, V, A, P) Q := by
  obtain ⟨it, hx⟩ := h.ob
  have k0 := hK.1
  have kR := hK.2.2.2.2.2.2.2.1
  have k13 := kR.1
  have hb := rm_b (f := f) h.wo
  have hX := h.wo
  simp (disch := first | assumption | omega | exact isB_z | exact isB_o | exact iI_in' (by assumption) (by omega) (by omega) | exact cat_int _ | exact cat_ref _ | exact cat_null | decide) only [c_53, ↓x_53_0, ↓x_53_1, ↓x_53_2, up1_same, up1_ne, up1_up1, us_0, us_1, us_2, us_3, us_4, us_5, us_6, us_7, us_8, us_9, us_10, us_11, rw_zero, rw_succ, Option.toList_some, Option.toList_none, List.cons_append, List.nil_append, cat_int, cat_ref, cat_null, iI_add, iI_sub, iI_mul, iI_neg, List.length_cons, List.length_nil, ↓reduceIte, va_rf_some, exR, wiR, wkW, wkR, orR, rdR, k_canRead h1 h2]
  by_cases a : 0 ≤ f ∧ f < 6 ∧ 0 ≤ u ∧ u ≤ 1
  · by_cases b : 0 ≤ w ∧ w ≤ 5
    · have b2 : ¬ w < 0 := by omega
      have b3 : ¬ 5 < w := by omega
      have hsp : aRead S.X f u w = if w = 0 then rm S.X f else if w = 1 then rFi S.X f u else if w = 2 then rBk S.X f u else if w = 3 then (rBl S.X f u).1 else if w = 4 then (rBl S.X f u).2 else if rFi S.X f u = -9 ∨ (rBl S.X f u).2 = -9 then -2000000 else rFi S.X f u - ((rBl S.X f u).2 - f) / 6 := by
        unfold aRead; rw [if_pos (by omega)]
      rw [hsp] at hQ
      simp (disch := first | assumption | omega | exact isB_z | exact isB_o | exact iI_in' (by assumption) (by omega) (by omega) | exact cat_int _ | exact cat_ref _ | exact cat_null | decide) only [a, and_self, if_true, ↓x_53_5, ↓x_53_8, ↓x_53_9, ↓x_53_12, ↓x_53_13, ↓x_53_14, ↓x_53_17, ↓x_53_19, ↓x_53_20, ↓x_53_21, ↓x_53_24, ↓x_53_25, ↓x_53_28, ↓x_53_29, ↓x_53_30, up1_same, up1_ne, up1_up1, us_0, us_1, us_2, us_3, us_4, us_5, us_6, us_7, us_8, us_9, us_10, us_11, rw_zero, rw_succ, Option.toList_some, Option.toList_none, List.cons_append, List.nil_append, cat_int, cat_ref, cat_null, iI_add, iI_sub, iI_mul, iI_neg, List.length_cons, List.length_nil, ↓reduceIte, va_rf_some, exR, wiR, wkW, wkR, orR, rdR, hx, iI_eq, iI_lt, iI_n0, b2, b3, if_false, k_sumOf h2]
      simp (disch := first | assumption | omega | exact isB_z | exact isB_o | exact iI_in' (by assumption) (by omega) (by omega) | exact cat_int _ | exact cat_ref _ | exact cat_null | decide) only [↓x_53_33, up1_same, up1_ne, up1_up1, us_0, us_1, us_2, us_3, us_4, us_5, us_6, us_7, us_8, us_9, us_10, us_11, rw_zero, rw_succ, Option.toList_some, Option.toList_none, List.cons_append, List.nil_append, cat_int, cat_ref, cat_null, iI_add, iI_sub, iI_mul, iI_neg, List.length_cons, List.length_nil, ↓reduceIte, va_rf_some, exR, wiR, wkW, wkR, orR, rdR]
      refine k_loadX hK h (by omega) (fun V' A' q1 q2 q3 => ?_)
      have hx' : V' 3 = exR S.T.length it S.U.length := by rw [q3.1 3 (by omega)]; exact hx
      have hT' := q3.tabs hT
      simp (disch := first | assumption | omega | exact isB_z | exact isB_o | exact iI_in' (by assumption) (by omega) (by omega) | exact cat_int _ | exact cat_ref _ | exact cat_null | decide) only [↓x_53_36, ↓x_53_37, up1_same, up1_ne, up1_up1, us_0, us_1, us_2, us_3, us_4, us_5, us_6, us_7, us_8, us_9, us_10, us_11, rw_zero, rw_succ, Option.toList_some, Option.toList_none, List.cons_append, List.nil_append, cat_int, cat_ref, cat_null, iI_add, iI_sub, iI_mul, iI_neg, List.length_cons, List.length_nil, ↓reduceIte, va_rf_some, exR, wiR, wkW, wkR, orR, rdR, iI_eq]
      by_cases w0 : w = 0
      · rw [if_pos w0] at hQ ⊢
        obtain ⟨fi, br, bl, lo, v1, v2, v3⟩ := q1
        simp (disch := first | assumption | omega | exact isB_z | exact isB_o | exact iI_in' (by assumption) (by omega) (by omega) | exact cat_int _ | exact cat_ref _ | exact cat_null | decide) only [↓x_53_40, ↓x_53_41, ↓x_53_44, ↓x_53_47, up1_same, up1_ne, up1_up1, us_0, us_1, us_2, us_3, us_4, us_5, us_6, us_7, us_8, us_9, us_10, us_11, rw_zero, rw_succ, Option.toList_some, Option.toList_none, List.cons_append, List.nil_append, cat_int, cat_ref, cat_null, iI_add, iI_sub, iI_mul, iI_neg, List.length_cons, List.length_nil, ↓reduceIte, va_rf_some, exR, wiR, wkW, wkR, orR, rdR, hx', v1]
        exact hQ V' A' q3
      · rw [if_neg w0] at hQ ⊢
        simp (disch := first | assumption | omega | exact isB_z | exact isB_o | exact iI_in' (by assumption) (by omega) (by omega) | exact cat_int _ | exact cat_ref _ | exact cat_null | decide) only [↓x_53_48, ↓x_53_49, ↓x_53_52, up1_same, up1_ne, up1_up1, us_0, us_1, us_2, us_3, us_4, us_5, us_6, us_7, us_8, us_9, us_10, us_11, rw_zero, rw_succ, Option.toList_some, Option.toList_none, List.cons_append, List.nil_append, cat_int, cat_ref, cat_null, iI_add, iI_sub, iI_mul, iI_neg, List.length_cons, List.length_nil, ↓reduceIte, va_rf_some, exR, wiR, wkW, wkR, orR, rdR, hx']
        refine k_checkX hK hT' hX q1 q2 q3.2.2 (fun V2 r1 r2 => ?_)
        obtain ⟨bl, lo, v1, v2, v3⟩ := r1
        have hx2 : V2 3 = exR S.T.length it S.U.length := by rw [r2.1 3 (by omega)]; exact hx'
        have q3' := q3.tr r2
        simp (disch := first | assumption | omega | exact isB_z | exact isB_o | exact iI_in' (by assumption) (by omega) (by omega) | exact cat_int _ | exact cat_ref _ | exact cat_null | decide) only [↓x_53_55, ↓x_53_56, ↓x_53_57, up1_same, up1_ne, up1_up1, us_0, us_1, us_2, us_3, us_4, us_5, us_6, us_7, us_8, us_9, us_10, us_11, rw_zero, rw_succ, Option.toList_some, Option.toList_none, List.cons_append, List.nil_append, cat_int, cat_ref, cat_null, iI_add, iI_sub, iI_mul, iI_neg, List.length_cons, List.length_nil, ↓reduceIte, va_rf_some, exR, wiR, wkW, wkR, orR, rdR, iI_eq]
        by_cases w1 : w = 1
        · rw [if_pos w1] at hQ ⊢
          simp (disch := first | assumption | omega | exact isB_z | exact isB_o | exact iI_in' (by assumption) (by omega) (by omega) | exact cat_int _ | exact cat_ref _ | exact cat_null | decide) only [↓x_53_60, ↓x_53_61, ↓x_53_64, ↓x_53_67, up1_same, up1_ne, up1_up1, us_0, us_1, us_2, us_3, us_4, us_5, us_6, us_7, us_8, us_9, us_10, us_11, rw_zero, rw_succ, Option.toList_some, Option.toList_none, List.cons_append, List.nil_append, cat_int, cat_ref, cat_null, iI_add, iI_sub, iI_mul, iI_neg, List.length_cons, List.length_nil, ↓reduceIte, va_rf_some, exR, wiR, wkW, wkR, orR, rdR, hx2, v1]
          exact hQ V2 A' q3'
        · rw [if_neg w1] at hQ ⊢
          simp (disch := first | assumption | omega | exact isB_z | exact isB_o | exact iI_in' (by assumption) (by omega) (by omega) | exact cat_int _ | exact cat_ref _ | exact cat_null | decide) only [↓x_53_68, ↓x_53_69, ↓x_53_70, up1_same, up1_ne, up1_up1, us_0, us_1, us_2, us_3, us_4, us_5, us_6, us_7, us_8, us_9, us_10, us_11, rw_zero, rw_succ, Option.toList_some, Option.toList_none, List.cons_append, List.nil_append, cat_int, cat_ref, cat_null, iI_add, iI_sub, iI_mul, iI_neg, List.length_cons, List.length_nil, ↓reduceIte, va_rf_some, exR, wiR, wkW, wkR, orR, rdR, iI_eq]
          by_cases w2 : w = 2
          · rw [if_pos w2] at hQ ⊢
            simp (disch := first | assumption | omega | exact isB_z | exact isB_o | exact iI_in' (by assumption) (by omega) (by omega) | exact cat_int _ | exact cat_ref _ | exact cat_null | decide) only [↓x_53_73, ↓x_53_74, ↓x_53_77, ↓x_53_80, up1_same, up1_ne, up1_up1, us_0, us_1, us_2, us_3, us_4, us_5, us_6, us_7, us_8, us_9, us_10, us_11, rw_zero, rw_succ, Option.toList_some, Option.toList_none, List.cons_append, List.nil_append, cat_int, cat_ref, cat_null, iI_add, iI_sub, iI_mul, iI_neg, List.length_cons, List.length_nil, ↓reduceIte, va_rf_some, exR, wiR, wkW, wkR, orR, rdR, hx2, v1]
            exact hQ V2 A' q3'
          · rw [if_neg w2] at hQ ⊢
            simp (disch := first | assumption | omega | exact isB_z | exact isB_o | exact iI_in' (by assumption) (by omega) (by omega) | exact cat_int _ | exact cat_ref _ | exact cat_null | decide) only [↓x_53_81, ↓x_53_82, ↓x_53_85, up1_same, up1_ne, up1_up1, us_0, us_1, us_2, us_3, us_4, us_5, us_6, us_7, us_8, us_9, us_10, us_11, rw_zero, rw_succ, Option.toList_some, Option.toList_none, List.cons_append, List.nil_append, cat_int, cat_ref, cat_null, iI_add, iI_sub, iI_mul, iI_neg, List.length_cons, List.length_nil, ↓reduceIte, va_rf_some, exR, wiR, wkW, wkR, orR, rdR, hx2]
            have hfi := rFi_b (f := f) u hX
            refine k_blame hT' kR v1 v2 v3 q2 (sO_b u) (by omega) hfi (E := rBl S.X f u) rfl (fun V3 r3 r4 r5 r6 => ?_)
            have hx3 : V3 3 = exR S.T.length it S.U.length := by rw [r6 3 (by omega) (by omega) (by omega)]; exact hx2
            have q4 := q3'.tr (fq_rd r2.2.2 r6 ⟨_, _, _, _, _, _, _, r3⟩ r4 r5)
            simp (disch := first | assumption | omega | exact isB_z | exact isB_o | exact iI_in' (by assumption) (by omega) (by omega) | exact cat_int _ | exact cat_ref _ | exact cat_null | decide) only [↓x_53_88, ↓x_53_89, ↓x_53_90, up1_same, up1_ne, up1_up1, us_0, us_1, us_2, us_3, us_4, us_5, us_6, us_7, us_8, us_9, us_10, us_11, rw_zero, rw_succ, Option.toList_some, Option.toList_none, List.cons_append, List.nil_append, cat_int, cat_ref, cat_null, iI_add, iI_sub, iI_mul, iI_neg, List.length_cons, List.length_nil, ↓reduceIte, va_rf_some, exR, wiR, wkW, wkR, orR, rdR, iI_eq]
            by_cases w3 : w = 3
            · rw [if_pos w3] at hQ ⊢
              simp (disch := first | assumption | omega | exact isB_z | exact isB_o | exact iI_in' (by assumption) (by omega) (by omega) | exact cat_int _ | exact cat_ref _ | exact cat_null | decide) only [↓x_53_93, ↓x_53_94, ↓x_53_97, ↓x_53_100, up1_same, up1_ne, up1_up1, us_0, us_1, us_2, us_3, us_4, us_5, us_6, us_7, us_8, us_9, us_10, us_11, rw_zero, rw_succ, Option.toList_some, Option.toList_none, List.cons_append, List.nil_append, cat_int, cat_ref, cat_null, iI_add, iI_sub, iI_mul, iI_neg, List.length_cons, List.length_nil, ↓reduceIte, va_rf_some, exR, wiR, wkW, wkR, orR, rdR, hx3, r3]
              exact hQ V3 A' q4
            · rw [if_neg w3] at hQ ⊢
              simp (disch := first | assumption | omega | exact isB_z | exact isB_o | exact iI_in' (by assumption) (by omega) (by omega) | exact cat_int _ | exact cat_ref _ | exact cat_null | decide) only [↓x_53_101, ↓x_53_102, ↓x_53_103, up1_same, up1_ne, up1_up1, us_0, us_1, us_2, us_3, us_4, us_5, us_6, us_7, us_8, us_9, us_10, us_11, rw_zero, rw_succ, Option.toList_some, Option.toList_none, List.cons_append, List.nil_append, cat_int, cat_ref, cat_null, iI_add, iI_sub, iI_mul, iI_neg, List.length_cons, List.length_nil, ↓reduceIte, va_rf_some, exR, wiR, wkW, wkR, orR, rdR, iI_eq]
              by_cases w4 : w = 4
              · rw [if_pos w4] at hQ ⊢
                simp (disch := first | assumption | omega | exact isB_z | exact isB_o | exact iI_in' (by assumption) (by omega) (by omega) | exact cat_int _ | exact cat_ref _ | exact cat_null | decide) only [↓x_53_106, ↓x_53_107, ↓x_53_110, ↓x_53_113, ↓x_53_123, up1_same, up1_ne, up1_up1, us_0, us_1, us_2, us_3, us_4, us_5, us_6, us_7, us_8, us_9, us_10, us_11, rw_zero, rw_succ, Option.toList_some, Option.toList_none, List.cons_append, List.nil_append, cat_int, cat_ref, cat_null, iI_add, iI_sub, iI_mul, iI_neg, List.length_cons, List.length_nil, ↓reduceIte, va_rf_some, exR, wiR, wkW, wkR, orR, rdR, hx3, r3]
                exact hQ V3 A' q4
              · rw [if_neg w4] at hQ ⊢
                simp (disch := first | assumption | omega | exact isB_z | exact isB_o | exact iI_in' (by assumption) (by omega) (by omega) | exact cat_int _ | exact cat_ref _ | exact cat_null | decide) only [↓x_53_116, ↓x_53_117, ↓x_53_120, up1_same, up1_ne, up1_up1, us_0, us_1, us_2, us_3, us_4, us_5, us_6, us_7, us_8, us_9, us_10, us_11, rw_zero, rw_succ, Option.toList_some, Option.toList_none, List.cons_append, List.nil_append, cat_int, cat_ref, cat_null, iI_add, iI_sub, iI_mul, iI_neg, List.length_cons, List.length_nil, ↓reduceIte, va_rf_some, exR, wiR, wkW, wkR, orR, rdR, hx3]
                have hlo : (rBl S.X f u).2 = -9 ∨ (f ≤ (rBl S.X f u).2 ∧ (rBl S.X f u).2 < 300) := blO_l _ _ _ f (by omega) _ 0 (0, -9) (Or.inl rfl) (by split <;> omega)
                rw [k_late kR r3 (by omega) (by omega) hlo]
                simp (disch := first | assumption | omega | exact isB_z | exact isB_o | exact iI_in' (by assumption) (by omega) (by omega) | exact cat_int _ | exact cat_ref _ | exact cat_null | decide) only [↓x_53_123, up1_same, up1_ne, up1_up1, us_0, us_1, us_2, us_3, us_4, us_5, us_6, us_7, us_8, us_9, us_10, us_11, rw_zero, rw_succ, Option.toList_some, Option.toList_none, List.cons_append, List.nil_append, cat_int, cat_ref, cat_null, iI_add, iI_sub, iI_mul, iI_neg, List.length_cons, List.length_nil, ↓reduceIte, va_rf_some, exR, wiR, wkW, wkR, orR, rdR]
                exact hQ V3 A' q4
    · have hsp : aRead S.X f u w = -1000000 := by unfold aRead; rw [if_neg (by omega)]
      rw [hsp] at hQ
      simp (disch := first | assumption | omega | exact isB_z | exact isB_o | exact iI_in' (by assumption) (by omega) (by omega) | exact cat_int _ | exact cat_ref _ | exact cat_null | decide) only [a, and_self, if_true, ↓x_53_5, ↓x_53_8, ↓x_53_9, ↓x_53_12, ↓x_53_13, ↓x_53_14, ↓x_53_17, ↓x_53_19, up1_same, up1_ne, up1_up1, us_0, us_1, us_2, us_3, us_4, us_5, us_6, us_7, us_8, us_9, us_10, us_11, rw_zero, rw_succ, Option.toList_some, Option.toList_none, List.cons_append, List.nil_append, cat_int, cat_ref, cat_null, iI_add, iI_sub, iI_mul, iI_neg, List.length_cons, List.length_nil, ↓reduceIte, va_rf_some, exR, wiR, wkW, wkR, orR, rdR, iI_eq, iI_lt, iI_n0]
      by_cases b2 : w < 0
      · simp [b2]; exact hQ V A (fq_rf h.sc)
      · have b3 : 5 < w := by omega
        simp [b2, b3]; exact hQ V A (fq_rf h.sc)
  · have hsp : aRead S.X f u w = -1000000 := by unfold aRead; rw [if_neg (by omega)]
    rw [hsp] at hQ
    simp (disch := first | assumption | omega | exact isB_z | exact isB_o | exact iI_in' (by assumption) (by omega) (by omega) | exact cat_int _ | exact cat_ref _ | exact cat_null | decide) only [a, if_false, ↓x_53_5, ↓x_53_8, ↓x_53_9, ↓x_53_12, ↓x_53_13, ↓x_53_14, ↓x_53_17, ↓x_53_19, up1_same, up1_ne, up1_up1, us_0, us_1, us_2, us_3, us_4, us_5, us_6, us_7, us_8, us_9, us_10, us_11, rw_zero, rw_succ, Option.toList_some, Option.toList_none, List.cons_append, List.nil_append, cat_int, cat_ref, cat_null, iI_add, iI_sub, iI_mul, iI_neg, List.length_cons, List.length_nil, ↓reduceIte, va_rf_some, exR, wiR, wkW, wkR, orR, rdR, iI_eq, iI_n0]
    exact hQ V A (fq_rf h.sc)
end
