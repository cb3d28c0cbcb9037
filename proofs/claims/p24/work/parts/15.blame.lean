/-! READING: blame -/
def bI (b : Bool) : Int := cond b 1 0
def okR (g : Nat → Int) : (Int × wS) → Nat → Nat → Bool
  | _, _, 0 => true
  | S, q, k + 1 => decide ((tkG S (g q)).2 = 0) && okR g (tkG S (g q)).1 (q + 1) k
/-- bit i of piece p turned, there is no breach from it on -/
def rgt (g : Nat → Int) (m : Nat) (S : Int × wS) (p i : Nat) : Bool := decide ((tkG S (tn (g p) (5 - i))).2 = 0) && okR g (tkG S (tn (g p) (5 - i))).1 (p + 1) (m - (p + 1))
def blI (g : Nat → Int) (m : Nat) (f : Int) (S : Int × wS) (p : Nat) : Nat → Nat → Int × Int → Int × Int
  | _, 0, b => b
  | i, k + 1, b => blI g m f S p (i + 1) k (if rgt g m S p i = true then (b.1 + 1, if b.2 = -9 then f + p * 6 + i else b.2) else b)
def blO (g : Nat → Int) (u : Int) (m : Nat) (f : Int) : Nat → Nat → Int × Int → Int × Int
  | _, 0, b => b
  | p, k + 1, b => blO g u m f (p + 1) k (blI g m f (wkG g u p) p 0 6 b)
theorem shl_tab : ∀ j : Nat, j < 6 → iI 1 <<< (iI j &&& 31) = iI (2 ^ j) := by decide +kernel
theorem shl_6 {j : Int} (h0 : 0 ≤ j) (h1 : j < 6) : iI 1 <<< (iI j &&& 31) = iI (2 ^ j.toNat) := by
  have := shl_tab j.toNat (by omega)
  rwa [Int.toNat_of_nonneg h0] at this
theorem tn_tab : ∀ j : Nat, j < 6 → ∀ n : Nat, n < 64 → 0 ≤ tn n j ∧ tn n j < 64 := by decide +kernel
theorem tn_b {n : Int} {j : Nat} (h0 : 0 ≤ n) (h1 : n < 64) (hj : j < 6) : 0 ≤ tn n j ∧ tn n j < 64 := by
  have := tn_tab j hj n.toNat (by omega)
  rwa [Int.toNat_of_nonneg h0] at this
theorem blI_b (g : Nat → Int) (m : Nat) (f : Int) (S : Int × wS) (p : Nat) : ∀ (k i : Nat) (b : Int × Int), (0 ≤ b.1 ∧ b.1 ≤ 6 * p + i ∧ -9 ≤ b.2 ∧ b.2 < 300) → i + k = 6 → (0 ≤ f ∧ f ≤ 5) → p < 32 → 0 ≤ (blI g m f S p i k b).1 ∧ (blI g m f S p i k b).1 ≤ 6 * p + 6 ∧ -9 ≤ (blI g m f S p i k b).2 ∧ (blI g m f S p i k b).2 < 300 := by
  intro k
  induction k with
  | zero =>
    intro i b h hk hf hp
    have : i = 6 := by omega
    subst this
    exact h
  | succ k ih =>
    intro i b h hk hf hp
    refine ih (i + 1) _ ?_ (by omega) hf hp
    split
    · refine ⟨by omega, by omega, ?_, ?_⟩ <;> (simp only; split <;> omega)
    · exact ⟨h.1, by omega, h.2.2⟩
section
variable {d : Nat} {t : mL} {V : Nat → Nat → Value} {A : Nat → Nat → Int32} {P : Nat → Nat → Option Nat} {μ : mM} {Q : Option Value → mM → Prop}
theorem tkG_OK {m : Int} {S : Int × wS} (n : Int) (h : wOK m S.2) : wOK (m + 6) (tkG S n).1.2 := tk_OK (f := fbr n S.1) h
theorem tkG_s {S : Int × wS} (n : Int) (h : S.1 = -1 ∨ S.1 = 1) : (tkG S n).1.1 = -1 ∨ (tkG S n).1.1 = 1 := sB_b _ h
theorem irt_loop {r : Nat} {f u m fi br bl lo : Int} {p i : Int32} {g : Nat → Int} (hT : tabs t A) (hR : rdK t r) (hr : V r = rdR r f u m fi br bl lo) (hG : rdH A r m g) : ∀ (k : Nat) (q : Int) (S : Int × wS), 0 ≤ q → q + k = m → wOK (6 * q) S.2 → (S.1 = -1 ∨ S.1 = 1) → (∀ s W, Q (some (.int (iI (bI (okR g S q.toNat k))))) (t, up1 V (r + 3) (wkW s W), A, P)) → Ev (d + 6) 18 38 [.ref r, .int p, .int i, .int (iI q)] [] (t, up1 V (r + 3) (wkW S.1 S.2), A, P) Q := by
  have r1 := hR.1
  have r5 := hR.2.2.2.2
  have m1 := hG.2.1
  intro k
  induction k with
  | zero =>
    intro q S h0 hk hS hs hQ
    rw [x_18_38]
    have e1 : ¬ q < m := by omega
    simp (disch := first | assumption | omega | exact isB_z | exact isB_o | exact iI_in' (by assumption) (by omega) (by omega) | exact cat_int _ | exact cat_ref _ | exact cat_null | decide) only [↓x_18_0, ↓x_18_1, ↓x_18_4, ↓x_18_5, ↓x_18_8, ↓x_18_11, ↓x_18_12, ↓x_18_15, ↓x_18_16, ↓x_18_17, ↓x_18_20, ↓x_18_21, ↓x_18_22, ↓x_18_23, ↓x_18_24, ↓x_18_25, ↓x_18_26, ↓x_18_29, ↓x_18_32, ↓x_18_33, ↓x_18_34, ↓x_18_35, ↓x_18_36, ↓x_18_37, ↓x_18_39, ↓x_18_40, ↓x_18_43, ↓x_18_46, ↓x_18_47, ↓x_18_50, ↓x_18_51, ↓x_18_52, ↓x_18_55, ↓x_18_58, ↓x_18_61, ↓x_18_62, ↓x_18_63, ↓x_18_66, ↓x_18_69, ↓x_18_70, up1_same, up1_ne, up1_up1, us_0, us_1, us_2, us_3, us_4, us_5, us_6, us_7, us_8, us_9, us_10, us_11, rw_zero, rw_succ, Option.toList_some, Option.toList_none, List.cons_append, List.nil_append, cat_int, cat_ref, cat_null, iI_add, iI_sub, iI_mul, iI_neg, List.length_cons, List.length_nil, ↓reduceIte, va_rf_some, rdR, wkW, wkR, wiR, hr, iI_lt, e1, if_false]
    exact hQ _ _
  | succ k ih =>
    intro q S h0 hk hS hs hQ
    rw [x_18_38]
    have e1 : q < m := by omega
    have e3 := hG.2.2 q.toNat (by omega)
    have hr' : up1 V (r + 3) (wkW S.1 S.2) r = rdR r f u m fi br bl lo := by rw [up1_ne (by omega)]; exact hr
    have em : 6 * q ≤ 99000 := by omega
    obtain ⟨T, hTe⟩ : ∃ T, T = tkG S (g q.toNat) := ⟨_, rfl⟩
    have hlt : T.2 < 16 := by rw [hTe]; exact tkG_lt _ _
    simp (disch := first | assumption | omega | exact isB_z | exact isB_o | exact iI_in' (by assumption) (by omega) (by omega) | exact cat_int _ | exact cat_ref _ | exact cat_null | decide) only [↓x_18_0, ↓x_18_1, ↓x_18_4, ↓x_18_5, ↓x_18_8, ↓x_18_11, ↓x_18_12, ↓x_18_15, ↓x_18_16, ↓x_18_17, ↓x_18_20, ↓x_18_21, ↓x_18_22, ↓x_18_23, ↓x_18_24, ↓x_18_25, ↓x_18_26, ↓x_18_29, ↓x_18_32, ↓x_18_33, ↓x_18_34, ↓x_18_35, ↓x_18_36, ↓x_18_37, ↓x_18_39, ↓x_18_40, ↓x_18_43, ↓x_18_46, ↓x_18_47, ↓x_18_50, ↓x_18_51, ↓x_18_52, ↓x_18_55, ↓x_18_58, ↓x_18_61, ↓x_18_62, ↓x_18_63, ↓x_18_66, ↓x_18_69, ↓x_18_70, up1_same, up1_ne, up1_up1, us_0, us_1, us_2, us_3, us_4, us_5, us_6, us_7, us_8, us_9, us_10, us_11, rw_zero, rw_succ, Option.toList_some, Option.toList_none, List.cons_append, List.nil_append, cat_int, cat_ref, cat_null, iI_add, iI_sub, iI_mul, iI_neg, List.length_cons, List.length_nil, ↓reduceIte, va_rf_some, rdR, wkW, wkR, wiR, hr, iI_lt, e1, if_true, k_pieceAt hR hr' hG]
    rw [k_takeG hT r5 (up1_same _ _ _) hS em hs e3.2.1 e3.2.2, ← hTe]
    simp (disch := first | assumption | omega | exact isB_z | exact isB_o | exact iI_in' (by assumption) (by omega) (by omega) | exact cat_int _ | exact cat_ref _ | exact cat_null | decide) only [↓x_18_0, ↓x_18_1, ↓x_18_4, ↓x_18_5, ↓x_18_8, ↓x_18_11, ↓x_18_12, ↓x_18_15, ↓x_18_16, ↓x_18_17, ↓x_18_20, ↓x_18_21, ↓x_18_22, ↓x_18_23, ↓x_18_24, ↓x_18_25, ↓x_18_26, ↓x_18_29, ↓x_18_32, ↓x_18_33, ↓x_18_34, ↓x_18_35, ↓x_18_36, ↓x_18_37, ↓x_18_39, ↓x_18_40, ↓x_18_43, ↓x_18_46, ↓x_18_47, ↓x_18_50, ↓x_18_51, ↓x_18_52, ↓x_18_55, ↓x_18_58, ↓x_18_61, ↓x_18_62, ↓x_18_63, ↓x_18_66, ↓x_18_69, ↓x_18_70, up1_same, up1_ne, up1_up1, us_0, us_1, us_2, us_3, us_4, us_5, us_6, us_7, us_8, us_9, us_10, us_11, rw_zero, rw_succ, Option.toList_some, Option.toList_none, List.cons_append, List.nil_append, cat_int, cat_ref, cat_null, iI_add, iI_sub, iI_mul, iI_neg, List.length_cons, List.length_nil, ↓reduceIte, va_rf_some, rdR, wkW, wkR, wiR, iI_eq]
    simp only [okR] at hQ
    rw [← hTe] at hQ
    have hn1 : wOK (6 * (q + 1)) T.1.2 := by
      rw [show 6 * (q + 1) = 6 * q + 6 by omega, hTe]
      exact tkG_OK _ hS
    have hn2 : T.1.1 = -1 ∨ T.1.1 = 1 := by rw [hTe]; exact tkG_s _ hs
    clear hTe
    by_cases c : T.2 = 0
    · have := ih (q + 1) T.1 (by omega) (by omega) hn1 hn2 (by rw [show (q + 1).toNat = q.toNat + 1 by omega]; simpa [c, bI] using hQ)
      simp only [c, Int.natCast_zero, if_true]
      exact this
    · have c' : ¬ ((T.2 : Nat) : Int) = 0 := by omega
      simp only [c', if_false]
      have := hQ T.1.1 T.1.2
      simpa [c, bI] using this
set_option maxHeartbeats 150000 in
theorem k_irt {r : Nat} {f u m fi br bl lo p i : Int} {S : Int × wS} {g : Nat → Int} (hT : tabs t A) (hR : rdK t r) (hr : V r = rdR r f u m fi br bl lo) (hw : V (r + 2) = wkW S.1 S.2) (hz : ∃ s W, V (r + 3) = wkW s W) (hG : rdH A r m g) (h0 : 0 ≤ p) (h1 : p < m) (i0 : 0 ≤ i) (i1 : i < 6) (hS : wOK (6 * p) S.2) (hs : S.1 = -1 ∨ S.1 = 1) (hQ : ∀ s W, Q (some (.int (iI (bI (rgt g m.toNat S p.toNat i.toNat))))) (t, up1 V (r + 3) (wkW s W), A, P)) : Call (d + 7) 18 [.ref r, .int (iI p), .int (iI i)] (t, V, A, P) Q := by
  have r1 := hR.1
  have r4 := hR.2.2.2.1
  have r5 := hR.2.2.2.2
  have m1 := hG.2.1
  obtain ⟨s0, W0, hz⟩ := hz
  have e3 := hG.2.2 p.toNat (by omega)
  have ei : (5 - i).toNat = 5 - i.toNat := by omega
  have ej : (5 - i).toNat < 6 := by omega
  have eR : r ≠ r + 3 := by omega
  have eR2 : r + 2 ≠ r + 3 := by omega
  have em : 6 * p ≤ 99000 := by omega
  have eS : 6 * (p + 1) = 6 * p + 6 := by omega
  have hr' : ∀ R, up1 V (r + 3) R r = rdR r f u m fi br bl lo := fun R => by rw [up1_ne eR]; exact hr
  simp only [rgt] at hQ
  rw [← ei] at hQ
  obtain ⟨y, hy⟩ : ∃ y, y = tn (g p.toNat) (5 - i).toNat := ⟨_, rfl⟩
  have ex : iI (g p.toNat) ^^^ iI (2 ^ (5 - i).toNat) = iI y := by rw [hy]; exact xor_6 e3.2.1 e3.2.2 ej
  have et : 0 ≤ y ∧ y < 64 := by rw [hy]; exact tn_b e3.2.1 e3.2.2 ej
  rw [← hy] at hQ
  clear hy
  obtain ⟨T, hTe⟩ : ∃ T, T = tkG S y := ⟨_, rfl⟩
  have hlt : T.2 < 16 := by rw [hTe]; exact tkG_lt _ _
  have hn1 : wOK (6 * (p + 1)) T.1.2 := by rw [hTe, eS]; exact tkG_OK _ hS
  have hn2 : T.1.1 = -1 ∨ T.1.1 = 1 := by rw [hTe]; exact tkG_s _ hs
  rw [← hTe] at hQ
  simp (disch := first | assumption | omega | exact isB_z | exact isB_o | exact iI_in' (by assumption) (by omega) (by omega) | exact cat_int _ | exact cat_ref _ | exact cat_null | decide) only [c_18, ↓x_18_0, ↓x_18_1, ↓x_18_4, ↓x_18_5, ↓x_18_8, up1_same, up1_ne, up1_up1, us_0, us_1, us_2, us_3, us_4, us_5, us_6, us_7, us_8, us_9, us_10, us_11, rw_zero, rw_succ, Option.toList_some, Option.toList_none, List.cons_append, List.nil_append, cat_int, cat_ref, cat_null, iI_add, iI_sub, iI_mul, iI_neg, List.length_cons, List.length_nil, ↓reduceIte, va_rf_some, rdR, wkW, wkR, wiR, hr]
  rw [k_become r5 r4 eR2 hz hw]
  simp (disch := first | assumption | omega | exact isB_z | exact isB_o | exact iI_in' (by assumption) (by omega) (by omega) | exact cat_int _ | exact cat_ref _ | exact cat_null | decide) only [↓x_18_11, ↓x_18_12, ↓x_18_15, ↓x_18_16, ↓x_18_17, ↓x_18_20, ↓x_18_21, ↓x_18_22, ↓x_18_23, ↓x_18_24, ↓x_18_25, ↓x_18_26, up1_same, up1_ne, up1_up1, us_0, us_1, us_2, us_3, us_4, us_5, us_6, us_7, us_8, us_9, us_10, us_11, rw_zero, rw_succ, Option.toList_some, Option.toList_none, List.cons_append, List.nil_append, cat_int, cat_ref, cat_null, iI_add, iI_sub, iI_mul, iI_neg, List.length_cons, List.length_nil, ↓reduceIte, va_rf_some, rdR, wkW, wkR, wiR, hr, k_pieceAt hR (hr' _) hG, shl_6, ex]
  rw [k_takeG hT r5 (up1_same _ _ _) hS em hs et.1 et.2, ← hTe]
  clear hTe
  simp (disch := first | assumption | omega | exact isB_z | exact isB_o | exact iI_in' (by assumption) (by omega) (by omega) | exact cat_int _ | exact cat_ref _ | exact cat_null | decide) only [↓x_18_29, ↓x_18_32, ↓x_18_33, ↓x_18_34, ↓x_18_35, ↓x_18_36, ↓x_18_37, up1_same, up1_ne, up1_up1, us_0, us_1, us_2, us_3, us_4, us_5, us_6, us_7, us_8, us_9, us_10, us_11, rw_zero, rw_succ, Option.toList_some, Option.toList_none, List.cons_append, List.nil_append, cat_int, cat_ref, cat_null, iI_add, iI_sub, iI_mul, iI_neg, List.length_cons, List.length_nil, ↓reduceIte, va_rf_some, rdR, wkW, wkR, wiR, iI_eq]
  by_cases c : T.2 = 0
  · have := irt_loop (Q := Q) (d := d) (p := iI p) (i := iI i) hT hR hr hG (m.toNat - (p.toNat + 1)) (p + 1) T.1 (by omega) (by omega) hn1 hn2 (by rw [show (p + 1).toNat = p.toNat + 1 by omega]; simpa [c, bI] using hQ)
    simp only [c, Int.natCast_zero, if_true]
    exact this
  · have c' : ¬ ((T.2 : Nat) : Int) = 0 := by omega
    simp only [c', if_false]
    have := hQ T.1.1 T.1.2
    simpa [c, bI] using this
set_option maxHeartbeats 150000 in
theorem blame_in {r : Nat} {f u m fi br p en : Int} {g : Nat → Int} {V0 : Nat → Nat → Value} (hT : tabs t A) (hR : rdK t r) (hG : rdH A r m g) (hu : u = -1 ∨ u = 1) (h0 : 0 ≤ p) (h1 : p < m) (hf : 0 ≤ f ∧ f ≤ 5) {E : Int × Int}
    (hQ : ∀ V' : Nat → Nat → Value, V' r = rdR r f u m fi br E.1 E.2 → V' (r + 2) = wkW (wkG g u p.toNat).1 (wkG g u p.toNat).2 → (∃ s W, V' (r + 3) = wkW s W) → (∀ a, a ≠ r → a ≠ r + 2 → a ≠ r + 3 → V' a = V0 a) → Ev (d + 7) 17 117 [.ref r, .int (iI en), .int (iI p), .int (iI 6)] [] (t, V', A, P) Q) :
    ∀ (k : Nat) (i bl lo : Int) (V : Nat → Nat → Value), 0 ≤ i → i + k = 6 → 0 ≤ bl → bl ≤ 6 * p + i → -9 ≤ lo → lo < 300 → blI g m.toNat f (wkG g u p.toNat) p.toNat i.toNat k (bl, lo) = E → V r = rdR r f u m fi br bl lo → V (r + 2) = wkW (wkG g u p.toNat).1 (wkG g u p.toNat).2 → (∃ s W, V (r + 3) = wkW s W) → (∀ a, a ≠ r → a ≠ r + 2 → a ≠ r + 3 → V a = V0 a) → Ev (d + 7) 17 62 [.ref r, .int (iI en), .int (iI p), .int (iI i)] [] (t, V, A, P) Q := by
  have r1 := hR.1
  have m1 := hG.2.1
  intro k
  induction k with
  | zero =>
    intro i bl lo V i0 hk b0 b1 l0 l1 hb hr hw hz hV
    have : i = 6 := by omega
    subst this
    rw [x_17_62]
    simp only [blI] at hb
    simp (disch := first | assumption | omega | exact isB_z | exact isB_o | exact iI_in' (by assumption) (by omega) (by omega) | exact cat_int _ | exact cat_ref _ | exact cat_null | decide) only [↓x_17_63, ↓x_17_65, up1_same, up1_ne, up1_up1, us_0, us_1, us_2, us_3, us_4, us_5, us_6, us_7, us_8, us_9, us_10, us_11, rw_zero, rw_succ, Option.toList_some, Option.toList_none, List.cons_append, List.nil_append, cat_int, cat_ref, cat_null, iI_add, iI_sub, iI_mul, iI_neg, List.length_cons, List.length_nil, ↓reduceIte, va_rf_some, rdR, wkW, wkR, wiR, iI_lt, Int.reduceLT, if_false]
    exact hQ V (by rw [← hb]; exact hr) hw hz hV
  | succ k ih =>
    intro i bl lo V i0 hk b0 b1 l0 l1 hb hr hw hz hV
    rw [x_17_62]
    have e1 : i < 6 := by omega
    simp only [blI] at hb
    have hin : (i + 1).toNat = i.toNat + 1 := by omega
    have hcs : f + (p.toNat : Int) * 6 + (i.toNat : Int) = f + p * 6 + i := by omega
    rw [hcs] at hb
    simp (disch := first | assumption | omega | exact isB_z | exact isB_o | exact iI_in' (by assumption) (by omega) (by omega) | exact cat_int _ | exact cat_ref _ | exact cat_null | decide) only [↓x_17_63, ↓x_17_65, ↓x_17_68, ↓x_17_69, ↓x_17_70, ↓x_17_71, up1_same, up1_ne, up1_up1, us_0, us_1, us_2, us_3, us_4, us_5, us_6, us_7, us_8, us_9, us_10, us_11, rw_zero, rw_succ, Option.toList_some, Option.toList_none, List.cons_append, List.nil_append, cat_int, cat_ref, cat_null, iI_add, iI_sub, iI_mul, iI_neg, List.length_cons, List.length_nil, ↓reduceIte, va_rf_some, rdR, wkW, wkR, wiR, iI_lt, e1, if_true]
    refine k_irt hT hR hr hw hz hG h0 h1 i0 e1 (wkG_OK g hu _ |> fun q => by rw [Int.toNat_of_nonneg h0] at q; exact q) (wkG_s g hu _) (fun s W => ?_)
    have hr' : up1 V (r + 3) (wkW s W) r = rdR r f u m fi br bl lo := by rw [up1_ne (by omega)]; exact hr
    have hw' : up1 V (r + 3) (wkW s W) (r + 2) = wkW (wkG g u p.toNat).1 (wkG g u p.toNat).2 := by rw [up1_ne (by omega)]; exact hw
    have hz' : ∃ s' W', up1 V (r + 3) (wkW s W) (r + 3) = wkW s' W' := ⟨_, _, up1_same _ _ _⟩
    have hV' : ∀ a, a ≠ r → a ≠ r + 2 → a ≠ r + 3 → up1 V (r + 3) (wkW s W) a = V0 a := fun a q1 q2 q3 => by rw [up1_ne q3]; exact hV a q1 q2 q3
    generalize up1 V (r + 3) (wkW s W) = V1 at *
    by_cases c : rgt g m.toNat (wkG g u p.toNat) p.toNat i.toNat = true
    · simp only [c, if_true, bI, cond_true] at hb ⊢
      simp (disch := first | assumption | omega | exact isB_z | exact isB_o | exact iI_in' (by assumption) (by omega) (by omega) | exact cat_int _ | exact cat_ref _ | exact cat_null | decide) only [↓x_17_74, ↓x_17_77, ↓x_17_78, ↓x_17_79, ↓x_17_82, ↓x_17_83, ↓x_17_84, ↓x_17_87, ↓x_17_88, ↓x_17_91, ↓x_17_93, ↓x_17_96, ↓x_17_97, ↓x_17_98, ↓x_17_101, ↓x_17_102, ↓x_17_104, ↓x_17_105, ↓x_17_106, ↓x_17_107, ↓x_17_108, ↓x_17_111, ↓x_17_114, up1_same, up1_ne, up1_up1, us_0, us_1, us_2, us_3, us_4, us_5, us_6, us_7, us_8, us_9, us_10, us_11, rw_zero, rw_succ, Option.toList_some, Option.toList_none, List.cons_append, List.nil_append, cat_int, cat_ref, cat_null, iI_add, iI_sub, iI_mul, iI_neg, List.length_cons, List.length_nil, ↓reduceIte, va_rf_some, rdR, wkW, wkR, wiR, hr', iI_eq, show ¬ (1 : Int) = 0 from by omega, if_false]
      have fr : ∀ R a, a ≠ r → a ≠ r + 2 → a ≠ r + 3 → up1 V1 r R a = V0 a := fun R a q1 q2 q3 => by rw [up1_ne q1]; exact hV' a q1 q2 q3
      obtain ⟨s1, W1, hz1⟩ := hz'
      by_cases c9 : lo = -9
      · simp only [c9, if_true] at hb ⊢
        exact ih (i + 1) (bl + 1) (f + p * 6 + i) _ (by omega) (by omega) (by omega) (by omega) (by omega) (by omega) (by rw [hin]; exact hb) (up1_same _ _ _) (by rw [up1_ne (by omega)]; exact hw') ⟨s1, W1, by rw [up1_ne (by omega)]; exact hz1⟩ (fr _)
      · simp only [c9, if_false] at hb ⊢
        exact ih (i + 1) (bl + 1) lo _ (by omega) (by omega) (by omega) (by omega) (by omega) (by omega) (by rw [hin]; exact hb) (up1_same _ _ _) (by rw [up1_ne (by omega)]; exact hw') ⟨s1, W1, by rw [up1_ne (by omega)]; exact hz1⟩ (fr _)
    · simp only [c, if_false, bI, cond_false] at hb ⊢
      simp (disch := first | assumption | omega | exact isB_z | exact isB_o | exact iI_in' (by assumption) (by omega) (by omega) | exact cat_int _ | exact cat_ref _ | exact cat_null | decide) only [↓x_17_74, ↓x_17_77, ↓x_17_78, ↓x_17_79, ↓x_17_82, ↓x_17_83, ↓x_17_84, ↓x_17_87, ↓x_17_88, ↓x_17_91, ↓x_17_93, ↓x_17_96, ↓x_17_97, ↓x_17_98, ↓x_17_101, ↓x_17_102, ↓x_17_104, ↓x_17_105, ↓x_17_106, ↓x_17_107, ↓x_17_108, ↓x_17_111, ↓x_17_114, up1_same, up1_ne, up1_up1, us_0, us_1, us_2, us_3, us_4, us_5, us_6, us_7, us_8, us_9, us_10, us_11, rw_zero, rw_succ, Option.toList_some, Option.toList_none, List.cons_append, List.nil_append, cat_int, cat_ref, cat_null, iI_add, iI_sub, iI_mul, iI_neg, List.length_cons, List.length_nil, ↓reduceIte, va_rf_some, rdR, wkW, wkR, wiR, iI_eq, if_true]
      exact ih (i + 1) bl lo _ (by omega) (by omega) (by omega) (by omega) (by omega) (by omega) (by rw [hin]; simpa using hb) hr' hw' hz' hV'
set_option maxHeartbeats 200000 in
theorem blame_out {r : Nat} {f u m fi br en : Int} {g : Nat → Int} {V0 : Nat → Nat → Value} (hT : tabs t A) (hR : rdK t r) (hG : rdH A r m g) (hu : u = -1 ∨ u = 1) (hf : 0 ≤ f ∧ f ≤ 5) (he : en ≤ m) {E : Int × Int}
    (hQ : ∀ V' : Nat → Nat → Value, V' r = rdR r f u m fi br E.1 E.2 → (∃ s W, V' (r + 2) = wkW s W) → (∃ s W, V' (r + 3) = wkW s W) → (∀ a, a ≠ r → a ≠ r + 2 → a ≠ r + 3 → V' a = V0 a) → Q none (t, V', A, P)) :
    ∀ (k : Nat) (p : Int) (b : Int × Int) (V : Nat → Nat → Value) (a3 : Value), 0 ≤ p → p + k = en → 0 ≤ b.1 → b.1 ≤ 6 * p → -9 ≤ b.2 → b.2 < 300 → blO g u m.toNat f p.toNat k b = E → V r = rdR r f u m fi br b.1 b.2 → V (r + 2) = wkW (wkG g u p.toNat).1 (wkG g u p.toNat).2 → (∃ s W, V (r + 3) = wkW s W) → (∀ a, a ≠ r → a ≠ r + 2 → a ≠ r + 3 → V a = V0 a) → Ev (d + 7) 17 47 [.ref r, .int (iI en), .int (iI p), a3] [] (t, V, A, P) Q := by
  have r1 := hR.1
  have r4 := hR.2.2.2.1
  have m1 := hG.2.1
  intro k
  induction k with
  | zero =>
    intro p b V a3 p0 hk b0 b1 l0 l1 hb hr hw hz hV
    rw [x_17_47]
    have e1 : ¬ p < en := by omega
    simp (disch := first | assumption | omega | exact isB_z | exact isB_o | exact iI_in' (by assumption) (by omega) (by omega) | exact cat_int _ | exact cat_ref _ | exact cat_null | decide) only [↓x_17_48, ↓x_17_49, ↓x_17_52, ↓x_17_53, ↓x_17_54, ↓x_17_57, ↓x_17_136, up1_same, up1_ne, up1_up1, us_0, us_1, us_2, us_3, us_4, us_5, us_6, us_7, us_8, us_9, us_10, us_11, rw_zero, rw_succ, Option.toList_some, Option.toList_none, List.cons_append, List.nil_append, cat_int, cat_ref, cat_null, iI_add, iI_sub, iI_mul, iI_neg, List.length_cons, List.length_nil, ↓reduceIte, va_rf_some, rdR, wkW, wkR, wiR, iI_lt, e1, if_false]
    have hb' : b = E := hb
    exact hQ V (by rw [← hb']; exact hr) ⟨_, _, hw⟩ hz hV
  | succ k ih =>
    intro p b V a3 p0 hk b0 b1 l0 l1 hb hr hw hz hV
    rw [x_17_47]
    have e1 : p < en := by omega
    have e2 : p < m := by omega
    have e3 := hG.2.2 p.toNat (by omega)
    have em : 6 * ((p.toNat : Nat) : Int) ≤ 99000 := by omega
    have ep : (p + 1).toNat = p.toNat + 1 := by omega
    have q0 : (0 : Int) ≤ p := p0
    have q1 : p + 1 + (k : Int) = en := by omega
    have q2 : (0 : Int) ≤ p + 1 := by omega
    have q3 : 6 * (p + 1) = 6 * p + 6 := by omega
    have q4 : r + 2 ≠ r := by omega
    have q5 : r ≠ r + 2 := by omega
    have q6 : r + 3 ≠ r + 2 := by omega
    have hOK := wkG_OK g hu p.toNat
    have hs := wkG_s g hu p.toNat
    simp (disch := first | assumption | omega | exact isB_z | exact isB_o | exact iI_in' (by assumption) (by omega) (by omega) | exact cat_int _ | exact cat_ref _ | exact cat_null | decide) only [↓x_17_48, ↓x_17_49, ↓x_17_52, ↓x_17_53, ↓x_17_54, ↓x_17_57, ↓x_17_60, ↓x_17_61, up1_same, up1_ne, up1_up1, us_0, us_1, us_2, us_3, us_4, us_5, us_6, us_7, us_8, us_9, us_10, us_11, rw_zero, rw_succ, Option.toList_some, Option.toList_none, List.cons_append, List.nil_append, cat_int, cat_ref, cat_null, iI_add, iI_sub, iI_mul, iI_neg, List.length_cons, List.length_nil, ↓reduceIte, va_rf_some, rdR, wkW, wkR, wiR, hr, iI_lt, e1, e2, if_true]
    have hb2 : blO g u m.toNat f (p.toNat + 1) k (blI g m.toNat f (wkG g u p.toNat) p.toNat 0 6 b) = E := hb
    have hbd := blI_b g m.toNat f (wkG g u p.toNat) p.toNat 6 0 b ⟨b0, by omega, l0, l1⟩ (by omega) (by omega) (by omega)
    rw [Int.toNat_of_nonneg p0] at hbd
    refine blame_in (E := blI g m.toNat f (wkG g u p.toNat) p.toNat 0 6 b) (V0 := V0) hT hR hG hu p0 e2 hf (fun V' hr' hw' hz' hV' => ?_) 6 0 b.1 b.2 V (by omega) (by omega) b0 (by omega) l0 l1 rfl hr hw hz hV
    generalize blI g m.toNat f (wkG g u p.toNat) p.toNat 0 6 b = b' at *
    have hnx : wkG g u (p + 1).toNat = (tkG (wkG g u p.toNat) (g p.toNat)).1 := by rw [ep]; rfl
    simp (disch := first | assumption | omega | exact isB_z | exact isB_o | exact iI_in' (by assumption) (by omega) (by omega) | exact cat_int _ | exact cat_ref _ | exact cat_null | decide) only [↓x_17_117, ↓x_17_118, ↓x_17_121, ↓x_17_122, ↓x_17_123, up1_same, up1_ne, up1_up1, us_0, us_1, us_2, us_3, us_4, us_5, us_6, us_7, us_8, us_9, us_10, us_11, rw_zero, rw_succ, Option.toList_some, Option.toList_none, List.cons_append, List.nil_append, cat_int, cat_ref, cat_null, iI_add, iI_sub, iI_mul, iI_neg, List.length_cons, List.length_nil, ↓reduceIte, va_rf_some, rdR, wkW, wkR, wiR, hr', k_pieceAt hR hr' hG]
    simp (disch := first | assumption | omega | exact isB_z | exact isB_o | exact iI_in' (by assumption) (by omega) (by omega) | exact cat_int _ | exact cat_ref _ | exact cat_null | decide) only [↓x_17_126, up1_same, up1_ne, up1_up1, us_0, us_1, us_2, us_3, us_4, us_5, us_6, us_7, us_8, us_9, us_10, us_11, rw_zero, rw_succ, Option.toList_some, Option.toList_none, List.cons_append, List.nil_append, cat_int, cat_ref, cat_null, iI_add, iI_sub, iI_mul, iI_neg, List.length_cons, List.length_nil, ↓reduceIte, va_rf_some, rdR, wkW, wkR, wiR]
    rw [k_takeG hT r4 hw' hOK em hs e3.2.1 e3.2.2, ← hnx]
    simp (disch := first | assumption | omega | exact isB_z | exact isB_o | exact iI_in' (by assumption) (by omega) (by omega) | exact cat_int _ | exact cat_ref _ | exact cat_null | decide) only [↓x_17_129, ↓x_17_130, ↓x_17_133, up1_same, up1_ne, up1_up1, us_0, us_1, us_2, us_3, us_4, us_5, us_6, us_7, us_8, us_9, us_10, us_11, rw_zero, rw_succ, Option.toList_some, Option.toList_none, List.cons_append, List.nil_append, cat_int, cat_ref, cat_null, iI_add, iI_sub, iI_mul, iI_neg, List.length_cons, List.length_nil, ↓reduceIte, va_rf_some, rdR, wkW, wkR, wiR]
    obtain ⟨s3, W3, hz3⟩ := hz'
    exact ih (p + 1) b' _ _ q2 q1 hbd.1 (by rw [q3]; exact hbd.2.1) hbd.2.2.1 hbd.2.2.2 (by rw [ep]; exact hb2) (by rw [up1_ne q5]; exact hr') (up1_same _ _ _) ⟨s3, W3, by rw [up1_ne q6]; exact hz3⟩ (fun a w1 w2 w3 => by rw [up1_ne w2]; exact hV' a w1 w2 w3)
set_option maxHeartbeats 200000 in
theorem k_blame {r : Nat} {f u m fi br bl lo : Int} {g : Nat → Int} (hT : tabs t A) (hR : rdK t r) (hr : V r = rdR r f u m fi br bl lo) (hw : ∃ s W, V (r + 2) = wkW s W) (hz : ∃ s W, V (r + 3) = wkW s W) (hG : rdH A r m g) (hu : u = -1 ∨ u = 1) (hf : 0 ≤ f ∧ f ≤ 5) (hfi : fi = -9 ∨ (0 ≤ fi ∧ fi < m)) {E : Int × Int} (hE : blO g u m.toNat f 0 (if fi = -9 then m.toNat else fi.toNat + 1) (0, -9) = E)
    (hQ : ∀ V' : Nat → Nat → Value, V' r = rdR r f u m fi br E.1 E.2 → (∃ s W, V' (r + 2) = wkW s W) → (∃ s W, V' (r + 3) = wkW s W) → (∀ a, a ≠ r → a ≠ r + 2 → a ≠ r + 3 → V' a = V a) → Q none (t, V', A, P)) : Call (d + 8) 17 [.ref r] (t, V, A, P) Q := by
  have r1 := hR.1
  have r4 := hR.2.2.2.1
  have m0 := hG.1
  have m1 := hG.2.1
  obtain ⟨s3, W3, hz3⟩ := hz
  have q4 : r + 2 ≠ r := by omega
  have q5 : r ≠ r + 2 := by omega
  have q6 : r + 3 ≠ r + 2 := by omega
  have q7 : r + 3 ≠ r := by omega
  have hw' : ∀ R, ∃ s W, up1 V r R (r + 2) = wkW s W := fun R => by rw [up1_ne q4]; exact hw
  have b9 : -2147483648 ≤ fi ∧ fi < 2147483648 := by omega
  obtain ⟨b91, b92⟩ := b9
  simp (disch := first | assumption | omega | exact isB_z | exact isB_o | exact iI_in' (by assumption) (by omega) (by omega) | exact cat_int _ | exact cat_ref _ | exact cat_null | decide) only [c_17, ↓x_17_0, ↓x_17_1, ↓x_17_4, ↓x_17_6, ↓x_17_9, ↓x_17_10, ↓x_17_13, ↓x_17_16, ↓x_17_17, ↓x_17_20, ↓x_17_21, up1_same, up1_ne, up1_up1, us_0, us_1, us_2, us_3, us_4, us_5, us_6, us_7, us_8, us_9, us_10, us_11, rw_zero, rw_succ, Option.toList_some, Option.toList_none, List.cons_append, List.nil_append, cat_int, cat_ref, cat_null, iI_add, iI_sub, iI_mul, iI_neg, List.length_cons, List.length_nil, ↓reduceIte, va_rf_some, rdR, wkW, wkR, wiR, hr, iI_eq]
  by_cases c : fi = -9
  · simp only [c, if_true] at hE ⊢
    simp (disch := first | assumption | omega | exact isB_z | exact isB_o | exact iI_in' (by assumption) (by omega) (by omega) | exact cat_int _ | exact cat_ref _ | exact cat_null | decide) only [↓x_17_22, ↓x_17_23, ↓x_17_24, ↓x_17_25, ↓x_17_28, ↓x_17_29, ↓x_17_31, ↓x_17_34, ↓x_17_35, ↓x_17_38, ↓x_17_39, ↓x_17_42, ↓x_17_45, ↓x_17_46, up1_same, up1_ne, up1_up1, us_0, us_1, us_2, us_3, us_4, us_5, us_6, us_7, us_8, us_9, us_10, us_11, rw_zero, rw_succ, Option.toList_some, Option.toList_none, List.cons_append, List.nil_append, cat_int, cat_ref, cat_null, iI_add, iI_sub, iI_mul, iI_neg, List.length_cons, List.length_nil, ↓reduceIte, va_rf_some, rdR, wkW, wkR, wiR, hr, k_startG (g := g) r4 (hw' _)]
    exact blame_out hT hR hG hu hf (Int.le_refl m) (c ▸ hQ) m.toNat 0 (0, -9) _ _ (by omega) (by omega) (by omega) (by omega) (by omega) (by omega) hE (by rw [up1_ne q5, up1_same, c]) (up1_same _ _ _) ⟨s3, W3, by rw [up1_ne q6, up1_ne q7]; exact hz3⟩ (fun a w1 w2 w3 => by rw [up1_ne w2, up1_ne w1])
  · simp only [c, if_false] at hE ⊢
    simp (disch := first | assumption | omega | exact isB_z | exact isB_o | exact iI_in' (by assumption) (by omega) (by omega) | exact cat_int _ | exact cat_ref _ | exact cat_null | decide) only [↓x_17_22, ↓x_17_23, ↓x_17_24, ↓x_17_25, ↓x_17_28, ↓x_17_29, ↓x_17_31, ↓x_17_34, ↓x_17_35, ↓x_17_38, ↓x_17_39, ↓x_17_42, ↓x_17_45, ↓x_17_46, up1_same, up1_ne, up1_up1, us_0, us_1, us_2, us_3, us_4, us_5, us_6, us_7, us_8, us_9, us_10, us_11, rw_zero, rw_succ, Option.toList_some, Option.toList_none, List.cons_append, List.nil_append, cat_int, cat_ref, cat_null, iI_add, iI_sub, iI_mul, iI_neg, List.length_cons, List.length_nil, ↓reduceIte, va_rf_some, rdR, wkW, wkR, wiR, hr, k_startG (g := g) r4 (hw' _)]
    exact blame_out hT hR hG hu hf (by omega) hQ (fi.toNat + 1) 0 (0, -9) _ _ (by omega) (by omega) (by omega) (by omega) (by omega) (by omega) hE (by rw [up1_ne q5, up1_same]) (up1_same _ _ _) ⟨s3, W3, by rw [up1_ne q6, up1_ne q7]; exact hz3⟩ (fun a w1 w2 w3 => by rw [up1_ne w2, up1_ne w1])
theorem k_late {r : Nat} {f u m fi br bl lo : Int} (hR : rdK t r) (hr : V r = rdR r f u m fi br bl lo) (hf : 0 ≤ f ∧ f ≤ 5) (hfi : fi = -9 ∨ (0 ≤ fi ∧ fi < 32)) (hlo : lo = -9 ∨ (f ≤ lo ∧ lo < 300)) : Call (d + 1) 19 [.ref r] (t, V, A, P) Q = Q (some (.int (iI (if fi = -9 ∨ lo = -9 then -2000000 else fi - (lo - f) / 6)))) (t, V, A, P) := by
  have r1 := hR.1
  simp (disch := first | assumption | omega | exact isB_z | exact isB_o | exact iI_in' (by assumption) (by omega) (by omega) | exact cat_int _ | exact cat_ref _ | exact cat_null | decide) only [c_19, ↓x_19_0, ↓x_19_1, ↓x_19_4, ↓x_19_6, ↓x_19_9, ↓x_19_10, ↓x_19_13, ↓x_19_15, ↓x_19_18, ↓x_19_20, up1_same, up1_ne, up1_up1, us_0, us_1, us_2, us_3, us_4, us_5, us_6, us_7, us_8, us_9, us_10, us_11, rw_zero, rw_succ, Option.toList_some, Option.toList_none, List.cons_append, List.nil_append, cat_int, cat_ref, cat_null, iI_add, iI_sub, iI_mul, iI_neg, List.length_cons, List.length_nil, ↓reduceIte, va_rf_some, rdR, wkW, wkR, wiR, hr, iI_eq]
  by_cases c : fi = -9
  · simp [c]
  · by_cases e : lo = -9
    · simp [c, e]
    · simp only [c, e, if_false, or_self]
      simp (disch := first | assumption | omega | exact isB_z | exact isB_o | exact iI_in' (by assumption) (by omega) (by omega) | exact cat_int _ | exact cat_ref _ | exact cat_null | decide) only [↓x_19_21, ↓x_19_22, ↓x_19_25, ↓x_19_26, ↓x_19_29, ↓x_19_30, ↓x_19_33, ↓x_19_34, ↓x_19_36, ↓x_19_37, ↓x_19_38, up1_same, up1_ne, up1_up1, us_0, us_1, us_2, us_3, us_4, us_5, us_6, us_7, us_8, us_9, us_10, us_11, rw_zero, rw_succ, Option.toList_some, Option.toList_none, List.cons_append, List.nil_append, cat_int, cat_ref, cat_null, iI_add, iI_sub, iI_mul, iI_neg, List.length_cons, List.length_nil, ↓reduceIte, va_rf_some, rdR, wkW, wkR, wiR, hr, iI_n0, iI_div]
end
