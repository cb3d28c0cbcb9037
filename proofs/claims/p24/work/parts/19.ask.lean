/-! READING, asked of the class -/
def rg (X : aW) (f : Int) : Nat → Int := fun p => pcN X.2 (f + 6 * (p : Int))
def rm (X : aW) (f : Int) : Int := pN X.1.length f
theorem rm_b {X : aW} {f : Int} (hX : wf X) : 0 ≤ rm X f ∧ rm X f ≤ 32 := by
  have := hX.1
  unfold rm pN
  split
  · omega
  · split <;> omega
def aPiece (X : aW) (f u p w : Int) : Int :=
  if 0 ≤ f ∧ f < 6 ∧ 0 ≤ u ∧ u ≤ 1 ∧ 0 ≤ p ∧ 0 ≤ w ∧ w ≤ 4 then
    (if rm X f ≤ p then -9 else if w = 0 then rg X f p.toNat else if w = 1 then mn (rg X f p.toNat) else if w = 2 then (if fR (rg X f p.toNat) (wkG (rg X f) (sO u) p.toNat).1 = true then 1 else 0) else if w = 3 then (brG (rg X f) (sO u) p.toNat : Nat) else sG (wkG (rg X f) (sO u) (p.toNat + 1)).1)
  else -1
/-- the reading's own objects changed -/
theorem fq_rd {V V' : Nat → Nat → Value} {A : Nat → Nat → Int32} (hs : scr V) (h : ∀ a, a ≠ 13 → a ≠ 15 → a ≠ 16 → V' a = V a) (h1 : ∃ f u m fi br bl lo, V' 13 = rdR 13 f u m fi br bl lo) (h2 : ∃ s W, V' (13 + 2) = wkW s W) (h3 : ∃ s W, V' (13 + 3) = wkW s W) : fq V V' A A := by
  obtain ⟨f, u, m, fi, br, bl, lo, h1⟩ := h1
  refine ⟨fun a ha => h a (by omega) (by omega) (by omega), fun _ _ => rfl, ⟨f, u, m, fi, br, bl, lo, h1, h2, h3⟩, ?_, fun j hj => ?_, ?_⟩
  · rw [h 17 (by omega) (by omega) (by omega)]; exact hs.2.1
  · rw [h _ (by omega) (by omega) (by omega)]; exact hs.2.2.1 j hj
  · rw [h 29 (by omega) (by omega) (by omega)]; exact hs.2.2.2
theorem sO_b (u : Int) : sO u = -1 ∨ sO u = 1 := by
  unfold sO
  split
  · exact Or.inr rfl
  · exact Or.inl rfl
section
variable {d : Nat} {t : mL} {V : Nat → Nat → Value} {A : Nat → Nat → Int32} {P : Nat → Nat → Option Nat} {μ : mM} {Q : Option Value → mM → Prop} {S : aS} {e : Nat → Nat}
theorem k_loadX {f u : Int} (hK : exK t) (h : RX V A P S e) (hf : 0 ≤ f ∧ f ≤ 5) (hQ : ∀ (V' : Nat → Nat → Value) (A' : Nat → Nat → Int32), (∃ fi br bl lo, rdV V' 13 f u (rm S.X f) fi br bl lo) → rdH A' 13 (rm S.X f) (rg S.X f) → fq V V' A A' → Q none (t, V', A', P)) : Call (d + 4) 11 [.ref 13, .ref 4, .int (iI f), .int (iI u)] (t, V, A, P) Q := by
  obtain ⟨k1, k2, k3, k4, k5, k6, k7, k8, k9, k10, k11, k12⟩ := hK
  obtain ⟨⟨f0, u0, m0, fi0, br0, bl0, lo0, v1, v2, v3⟩, s2, s3, s4⟩ := h.sc
  refine k_load k8 k2 h.wi h.wo hf (by omega) ⟨f0, u0, m0, fi0, br0, bl0, lo0, v1⟩ (fun V' A' q1 q2 q3 q4 => ?_)
  obtain ⟨fi, br, bl, lo, q1⟩ := q1
  have r1 : rdV V' 13 f u (rm S.X f) fi br bl lo := ⟨q1, by rw [q2 _ (by omega)]; exact v2, by rw [q2 _ (by omega)]; exact v3⟩
  refine hQ V' A' ⟨fi, br, bl, lo, r1⟩ ⟨(rm_b h.wo).1, (rm_b h.wo).2, fun p hp => ⟨q4 p hp, pcN_b _ _⟩⟩ ⟨fun a ha => q2 a (by omega), fun a ha => q3 a (by omega), ⟨f, u, _, fi, br, bl, lo, r1⟩, ?_, fun j hj => ?_, ?_⟩
  · rw [q2 _ (by omega)]; exact s2
  · rw [q2 _ (by omega)]; exact s3 j hj
  · rw [q2 _ (by omega)]; exact s4
set_option maxHeartbeats 400000 in
theorem k_piece {f u p w : Int} (hK : exK t) (hT : tabs t A) (h : RX V A P S e) (h1 : -2147483648 ≤ f ∧ f < 2147483648) (h2 : -2147483648 ≤ u ∧ u < 2147483648) (h3 : -2147483648 ≤ p ∧ p < 2147483648) (h4 : -2147483648 ≤ w ∧ w < 2147483648)
    (hQ : ∀ (V' : Nat → Nat → Value) (A' : Nat → Nat → Int32), fq V V' A A' → Q (some (.int (iI (aPiece S.X f u p w)))) (t, V', A', P)) : Call (d + 8) 52 [.ref 3, .int (iI f), .int (iI u), .int (iI p), .int (iI w)] (t, V, A, P) Q := by
  obtain ⟨it, hx⟩ := h.ob
  have k0 := hK.1
  have k13 := hK.2.2.2.2.2.2.2.1.1
  have kR := hK.2.2.2.2.2.2.2.1
  have hb := rm_b (f := f) h.wo
  simp (disch := first | assumption | omega | exact isB_z | exact isB_o | exact iI_in' (by assumption) (by omega) (by omega) | exact cat_int _ | exact cat_ref _ | exact cat_null | decide) only [c_52, ↓x_52_0, ↓x_52_1, ↓x_52_2, up1_same, up1_ne, up1_up1, us_0, us_1, us_2, us_3, us_4, us_5, us_6, us_7, us_8, us_9, us_10, us_11, rw_zero, rw_succ, Option.toList_some, Option.toList_none, List.cons_append, List.nil_append, cat_int, cat_ref, cat_null, iI_add, iI_sub, iI_mul, iI_neg, List.length_cons, List.length_nil, ↓reduceIte, va_rf_some, exR, wiR, wkW, wkR, orR, rdR, k_canRead h1 h2]
  by_cases a : 0 ≤ f ∧ f < 6 ∧ 0 ≤ u ∧ u ≤ 1
  · by_cases b : 0 ≤ p ∧ 0 ≤ w ∧ w ≤ 4
    · have b1 : ¬ p < 0 := by omega
      have b2 : ¬ w < 0 := by omega
      have b3 : ¬ 4 < w := by omega
      simp (disch := first | assumption | omega | exact isB_z | exact isB_o | exact iI_in' (by assumption) (by omega) (by omega) | exact cat_int _ | exact cat_ref _ | exact cat_null | decide) only [a, and_self, if_true, ↓x_52_5, ↓x_52_8, ↓x_52_9, ↓x_52_12, ↓x_52_14, ↓x_52_17, ↓x_52_19, ↓x_52_20, ↓x_52_23, ↓x_52_24, ↓x_52_25, ↓x_52_26, ↓x_52_29, ↓x_52_30, ↓x_52_33, ↓x_52_34, ↓x_52_35, up1_same, up1_ne, up1_up1, us_0, us_1, us_2, us_3, us_4, us_5, us_6, us_7, us_8, us_9, us_10, us_11, rw_zero, rw_succ, Option.toList_some, Option.toList_none, List.cons_append, List.nil_append, cat_int, cat_ref, cat_null, iI_add, iI_sub, iI_mul, iI_neg, List.length_cons, List.length_nil, ↓reduceIte, va_rf_some, exR, wiR, wkW, wkR, orR, rdR, hx, iI_eq, iI_lt, iI_n0, b1, b2, b3, if_false, k_sumOf h2]
      simp (disch := first | assumption | omega | exact isB_z | exact isB_o | exact iI_in' (by assumption) (by omega) (by omega) | exact cat_int _ | exact cat_ref _ | exact cat_null | decide) only [↓x_52_38, up1_same, up1_ne, up1_up1, us_0, us_1, us_2, us_3, us_4, us_5, us_6, us_7, us_8, us_9, us_10, us_11, rw_zero, rw_succ, Option.toList_some, Option.toList_none, List.cons_append, List.nil_append, cat_int, cat_ref, cat_null, iI_add, iI_sub, iI_mul, iI_neg, List.length_cons, List.length_nil, ↓reduceIte, va_rf_some, exR, wiR, wkW, wkR, orR, rdR]
      refine k_loadX hK h (by omega) (fun V' A' q1 q2 q3 => ?_)
      obtain ⟨fi, br, bl, lo, v1, v2, v3⟩ := q1
      have hx' : V' 3 = exR S.T.length it S.U.length := by rw [q3.1 3 (by omega)]; exact hx
      have hT' := q3.tabs hT
      simp (disch := first | assumption | omega | exact isB_z | exact isB_o | exact iI_in' (by assumption) (by omega) (by omega) | exact cat_int _ | exact cat_ref _ | exact cat_null | decide) only [↓x_52_41, ↓x_52_42, ↓x_52_43, ↓x_52_46, ↓x_52_49, up1_same, up1_ne, up1_up1, us_0, us_1, us_2, us_3, us_4, us_5, us_6, us_7, us_8, us_9, us_10, us_11, rw_zero, rw_succ, Option.toList_some, Option.toList_none, List.cons_append, List.nil_append, cat_int, cat_ref, cat_null, iI_add, iI_sub, iI_mul, iI_neg, List.length_cons, List.length_nil, ↓reduceIte, va_rf_some, exR, wiR, wkW, wkR, orR, rdR, hx', v1, iI_lt]
      have hsp : aPiece S.X f u p w = if rm S.X f ≤ p then -9 else if w = 0 then rg S.X f p.toNat else if w = 1 then mn (rg S.X f p.toNat) else if w = 2 then (if fR (rg S.X f p.toNat) (wkG (rg S.X f) (sO u) p.toNat).1 = true then 1 else 0) else if w = 3 then (brG (rg S.X f) (sO u) p.toNat : Nat) else sG (wkG (rg S.X f) (sO u) (p.toNat + 1)).1 := by
        unfold aPiece; rw [if_pos (by omega)]
      rw [hsp] at hQ
      by_cases c : p < rm S.X f
      · have c' : ¬ rm S.X f ≤ p := by omega
        have gb := q2.2.2 p.toNat (by omega)
        have ss := wkG_s (rg S.X f) (sO_b u) p.toNat
        have ss2 := wkG_s (rg S.X f) (sO_b u) (p.toNat + 1)
        rw [if_neg c'] at hQ
        rw [if_pos c]
        simp (disch := first | assumption | omega | exact isB_z | exact isB_o | exact iI_in' (by assumption) (by omega) (by omega) | exact cat_int _ | exact cat_ref _ | exact cat_null | decide) only [↓x_52_55, ↓x_52_56, ↓x_52_59, ↓x_52_60, ↓x_52_63, ↓x_52_65, ↓x_52_67, up1_same, up1_ne, up1_up1, us_0, us_1, us_2, us_3, us_4, us_5, us_6, us_7, us_8, us_9, us_10, us_11, rw_zero, rw_succ, Option.toList_some, Option.toList_none, List.cons_append, List.nil_append, cat_int, cat_ref, cat_null, iI_add, iI_sub, iI_mul, iI_neg, List.length_cons, List.length_nil, ↓reduceIte, va_rf_some, exR, wiR, wkW, wkR, orR, rdR, hx', k_pieceAt kR v1 q2, iI_eq]
        by_cases w0 : w = 0
        · simp (disch := first | assumption | omega | exact isB_z | exact isB_o | exact iI_in' (by assumption) (by omega) (by omega) | exact cat_int _ | exact cat_ref _ | exact cat_null | decide) only [w0, if_true, ↓x_52_96, ↓x_52_98, up1_same, up1_ne, up1_up1, us_0, us_1, us_2, us_3, us_4, us_5, us_6, us_7, us_8, us_9, us_10, us_11, rw_zero, rw_succ, Option.toList_some, Option.toList_none, List.cons_append, List.nil_append, cat_int, cat_ref, cat_null, iI_add, iI_sub, iI_mul, iI_neg, List.length_cons, List.length_nil, ↓reduceIte, va_rf_some, exR, wiR, wkW, wkR, orR, rdR] at hQ ⊢
          exact hQ V' A' q3
        · by_cases w1 : w = 1
          · rw [if_neg w0, if_pos w1]
            rw [if_neg w0, if_pos w1] at hQ
            simp (disch := first | assumption | omega | exact isB_z | exact isB_o | exact iI_in' (by assumption) (by omega) (by omega) | exact cat_int _ | exact cat_ref _ | exact cat_null | decide) only [↓x_52_99, ↓x_52_101, ↓x_52_104, up1_same, up1_ne, up1_up1, us_0, us_1, us_2, us_3, us_4, us_5, us_6, us_7, us_8, us_9, us_10, us_11, rw_zero, rw_succ, Option.toList_some, Option.toList_none, List.cons_append, List.nil_append, cat_int, cat_ref, cat_null, iI_add, iI_sub, iI_mul, iI_neg, List.length_cons, List.length_nil, ↓reduceIte, va_rf_some, exR, wiR, wkW, wkR, orR, rdR, k_meaning hT' gb.2.1 gb.2.2]
            exact hQ V' A' q3
          · by_cases w2 : w = 2
            · rw [if_neg w0, if_neg w1, if_pos w2]
              rw [if_neg w0, if_neg w1, if_pos w2] at hQ
              simp (disch := first | assumption | omega | exact isB_z | exact isB_o | exact iI_in' (by assumption) (by omega) (by omega) | exact cat_int _ | exact cat_ref _ | exact cat_null | decide) only [↓x_52_105, ↓x_52_107, ↓x_52_108, ↓x_52_111, ↓x_52_112, up1_same, up1_ne, up1_up1, us_0, us_1, us_2, us_3, us_4, us_5, us_6, us_7, us_8, us_9, us_10, us_11, rw_zero, rw_succ, Option.toList_some, Option.toList_none, List.cons_append, List.nil_append, cat_int, cat_ref, cat_null, iI_add, iI_sub, iI_mul, iI_neg, List.length_cons, List.length_nil, ↓reduceIte, va_rf_some, exR, wiR, wkW, wkR, orR, rdR, hx', k_sumAhead kR v1 q2]
              simp (disch := first | assumption | omega | exact isB_z | exact isB_o | exact iI_in' (by assumption) (by omega) (by omega) | exact cat_int _ | exact cat_ref _ | exact cat_null | decide) only [↓x_52_115, up1_same, up1_ne, up1_up1, us_0, us_1, us_2, us_3, us_4, us_5, us_6, us_7, us_8, us_9, us_10, us_11, rw_zero, rw_succ, Option.toList_some, Option.toList_none, List.cons_append, List.nil_append, cat_int, cat_ref, cat_null, iI_add, iI_sub, iI_mul, iI_neg, List.length_cons, List.length_nil, ↓reduceIte, va_rf_some, exR, wiR, wkW, wkR, orR, rdR, k_isRight hT' gb.2.1 gb.2.2 ss]
              by_cases g : fR (rg S.X f p.toNat) (wkG (rg S.X f) (sO u) p.toNat).1 = true
              · simp (disch := first | assumption | omega | exact isB_z | exact isB_o | exact iI_in' (by assumption) (by omega) (by omega) | exact cat_int _ | exact cat_ref _ | exact cat_null | decide) only [g, if_true, ↓x_52_118, ↓x_52_121, ↓x_52_122, ↓x_52_125, ↓x_52_126, up1_same, up1_ne, up1_up1, us_0, us_1, us_2, us_3, us_4, us_5, us_6, us_7, us_8, us_9, us_10, us_11, rw_zero, rw_succ, Option.toList_some, Option.toList_none, List.cons_append, List.nil_append, cat_int, cat_ref, cat_null, iI_add, iI_sub, iI_mul, iI_neg, List.length_cons, List.length_nil, ↓reduceIte, va_rf_some, exR, wiR, wkW, wkR, orR, rdR] at hQ ⊢
                exact hQ V' A' q3
              · simp (disch := first | assumption | omega | exact isB_z | exact isB_o | exact iI_in' (by assumption) (by omega) (by omega) | exact cat_int _ | exact cat_ref _ | exact cat_null | decide) only [g, if_false, ↓x_52_118, ↓x_52_121, ↓x_52_122, ↓x_52_125, ↓x_52_126, up1_same, up1_ne, up1_up1, us_0, us_1, us_2, us_3, us_4, us_5, us_6, us_7, us_8, us_9, us_10, us_11, rw_zero, rw_succ, Option.toList_some, Option.toList_none, List.cons_append, List.nil_append, cat_int, cat_ref, cat_null, iI_add, iI_sub, iI_mul, iI_neg, List.length_cons, List.length_nil, ↓reduceIte, va_rf_some, exR, wiR, wkW, wkR, orR, rdR] at hQ ⊢
                simp
                exact hQ V' A' q3
            · by_cases w3 : w = 3
              · rw [if_neg w0, if_neg w1, if_neg w2, if_pos w3]
                rw [if_neg w0, if_neg w1, if_neg w2, if_pos w3] at hQ
                simp (disch := first | assumption | omega | exact isB_z | exact isB_o | exact iI_in' (by assumption) (by omega) (by omega) | exact cat_int _ | exact cat_ref _ | exact cat_null | decide) only [↓x_52_127, ↓x_52_128, ↓x_52_131, up1_same, up1_ne, up1_up1, us_0, us_1, us_2, us_3, us_4, us_5, us_6, us_7, us_8, us_9, us_10, us_11, rw_zero, rw_succ, Option.toList_some, Option.toList_none, List.cons_append, List.nil_append, cat_int, cat_ref, cat_null, iI_add, iI_sub, iI_mul, iI_neg, List.length_cons, List.length_nil, ↓reduceIte, va_rf_some, exR, wiR, wkW, wkR, orR, rdR, hx']
                simp (disch := first | assumption | omega | exact isB_z | exact isB_o | exact iI_in' (by assumption) (by omega) (by omega) | exact cat_int _ | exact cat_ref _ | exact cat_null | decide) only [↓x_52_132, up1_same, up1_ne, up1_up1, us_0, us_1, us_2, us_3, us_4, us_5, us_6, us_7, us_8, us_9, us_10, us_11, rw_zero, rw_succ, Option.toList_some, Option.toList_none, List.cons_append, List.nil_append, cat_int, cat_ref, cat_null, iI_add, iI_sub, iI_mul, iI_neg, List.length_cons, List.length_nil, ↓reduceIte, va_rf_some, exR, wiR, wkW, wkR, orR, rdR]
                rw [k_breachesAt hT' kR v1 v2 q2 (sO_b u) (by omega) c]
                simp (disch := first | assumption | omega | exact isB_z | exact isB_o | exact iI_in' (by assumption) (by omega) (by omega) | exact cat_int _ | exact cat_ref _ | exact cat_null | decide) only [↓x_52_135, up1_same, up1_ne, up1_up1, us_0, us_1, us_2, us_3, us_4, us_5, us_6, us_7, us_8, us_9, us_10, us_11, rw_zero, rw_succ, Option.toList_some, Option.toList_none, List.cons_append, List.nil_append, cat_int, cat_ref, cat_null, iI_add, iI_sub, iI_mul, iI_neg, List.length_cons, List.length_nil, ↓reduceIte, va_rf_some, exR, wiR, wkW, wkR, orR, rdR]
                refine hQ _ A' (q3.tr (fq_rd q3.2.2 (fun a h1 _ _ => up1_ne (by omega)) ⟨f, sO u, _, fi, br, bl, lo, by rw [up1_ne (by omega)]; exact v1⟩ ⟨_, _, up1_same _ _ _⟩ (by rw [up1_ne (by omega)]; exact v3)))
              · rw [if_neg w0, if_neg w1, if_neg w2, if_neg w3]
                rw [if_neg w0, if_neg w1, if_neg w2, if_neg w3] at hQ
                simp (disch := first | assumption | omega | exact isB_z | exact isB_o | exact iI_in' (by assumption) (by omega) (by omega) | exact cat_int _ | exact cat_ref _ | exact cat_null | decide) only [↓x_52_136, ↓x_52_137, ↓x_52_140, up1_same, up1_ne, up1_up1, us_0, us_1, us_2, us_3, us_4, us_5, us_6, us_7, us_8, us_9, us_10, us_11, rw_zero, rw_succ, Option.toList_some, Option.toList_none, List.cons_append, List.nil_append, cat_int, cat_ref, cat_null, iI_add, iI_sub, iI_mul, iI_neg, List.length_cons, List.length_nil, ↓reduceIte, va_rf_some, exR, wiR, wkW, wkR, orR, rdR, hx']
                simp (disch := first | assumption | omega | exact isB_z | exact isB_o | exact iI_in' (by assumption) (by omega) (by omega) | exact cat_int _ | exact cat_ref _ | exact cat_null | decide) only [↓x_52_141, up1_same, up1_ne, up1_up1, us_0, us_1, us_2, us_3, us_4, us_5, us_6, us_7, us_8, us_9, us_10, us_11, rw_zero, rw_succ, Option.toList_some, Option.toList_none, List.cons_append, List.nil_append, cat_int, cat_ref, cat_null, iI_add, iI_sub, iI_mul, iI_neg, List.length_cons, List.length_nil, ↓reduceIte, va_rf_some, exR, wiR, wkW, wkR, orR, rdR, k_sumBehindR kR v1 q2]
                simp (disch := first | assumption | omega | exact isB_z | exact isB_o | exact iI_in' (by assumption) (by omega) (by omega) | exact cat_int _ | exact cat_ref _ | exact cat_null | decide) only [↓x_52_144, up1_same, up1_ne, up1_up1, us_0, us_1, us_2, us_3, us_4, us_5, us_6, us_7, us_8, us_9, us_10, us_11, rw_zero, rw_succ, Option.toList_some, Option.toList_none, List.cons_append, List.nil_append, cat_int, cat_ref, cat_null, iI_add, iI_sub, iI_mul, iI_neg, List.length_cons, List.length_nil, ↓reduceIte, va_rf_some, exR, wiR, wkW, wkR, orR, rdR]
                rw [k_signOf (by omega)]
                simp (disch := first | assumption | omega | exact isB_z | exact isB_o | exact iI_in' (by assumption) (by omega) (by omega) | exact cat_int _ | exact cat_ref _ | exact cat_null | decide) only [↓x_52_147, up1_same, up1_ne, up1_up1, us_0, us_1, us_2, us_3, us_4, us_5, us_6, us_7, us_8, us_9, us_10, us_11, rw_zero, rw_succ, Option.toList_some, Option.toList_none, List.cons_append, List.nil_append, cat_int, cat_ref, cat_null, iI_add, iI_sub, iI_mul, iI_neg, List.length_cons, List.length_nil, ↓reduceIte, va_rf_some, exR, wiR, wkW, wkR, orR, rdR]
                exact hQ V' A' q3
      · have c' : rm S.X f ≤ p := by omega
        rw [if_pos c'] at hQ
        simp (disch := first | assumption | omega | exact isB_z | exact isB_o | exact iI_in' (by assumption) (by omega) (by omega) | exact cat_int _ | exact cat_ref _ | exact cat_null | decide) only [c, if_false, ↓x_52_52, ↓x_52_54, up1_same, up1_ne, up1_up1, us_0, us_1, us_2, us_3, us_4, us_5, us_6, us_7, us_8, us_9, us_10, us_11, rw_zero, rw_succ, Option.toList_some, Option.toList_none, List.cons_append, List.nil_append, cat_int, cat_ref, cat_null, iI_add, iI_sub, iI_mul, iI_neg, List.length_cons, List.length_nil, ↓reduceIte, va_rf_some, exR, wiR, wkW, wkR, orR, rdR]
        exact hQ V' A' q3
    · have hsp : aPiece S.X f u p w = -1 := by unfold aPiece; rw [if_neg (by omega)]
      rw [hsp] at hQ
      simp (disch := first | assumption | omega | exact isB_z | exact isB_o | exact iI_in' (by assumption) (by omega) (by omega) | exact cat_int _ | exact cat_ref _ | exact cat_null | decide) only [a, and_self, if_true, ↓x_52_5, ↓x_52_8, ↓x_52_9, ↓x_52_12, ↓x_52_14, ↓x_52_17, ↓x_52_19, ↓x_52_20, ↓x_52_23, ↓x_52_24, up1_same, up1_ne, up1_up1, us_0, us_1, us_2, us_3, us_4, us_5, us_6, us_7, us_8, us_9, us_10, us_11, rw_zero, rw_succ, Option.toList_some, Option.toList_none, List.cons_append, List.nil_append, cat_int, cat_ref, cat_null, iI_add, iI_sub, iI_mul, iI_neg, List.length_cons, List.length_nil, ↓reduceIte, va_rf_some, exR, wiR, wkW, wkR, orR, rdR, iI_eq, iI_lt, iI_n0]
      by_cases b1 : p < 0
      · simp [b1]; exact hQ V A ⟨fun _ _ => rfl, fun _ _ => rfl, h.sc⟩
      · by_cases b2 : w < 0
        · simp [b1, b2]; exact hQ V A ⟨fun _ _ => rfl, fun _ _ => rfl, h.sc⟩
        · have b3 : 4 < w := by omega
          simp [b1, b2, b3]; exact hQ V A ⟨fun _ _ => rfl, fun _ _ => rfl, h.sc⟩
  · have hsp : aPiece S.X f u p w = -1 := by unfold aPiece; rw [if_neg (by omega)]
    rw [hsp] at hQ
    simp (disch := first | assumption | omega | exact isB_z | exact isB_o | exact iI_in' (by assumption) (by omega) (by omega) | exact cat_int _ | exact cat_ref _ | exact cat_null | decide) only [a, if_false, ↓x_52_5, ↓x_52_8, ↓x_52_9, ↓x_52_12, ↓x_52_14, ↓x_52_17, ↓x_52_19, ↓x_52_20, ↓x_52_23, ↓x_52_24, up1_same, up1_ne, up1_up1, us_0, us_1, us_2, us_3, us_4, us_5, us_6, us_7, us_8, us_9, us_10, us_11, rw_zero, rw_succ, Option.toList_some, Option.toList_none, List.cons_append, List.nil_append, cat_int, cat_ref, cat_null, iI_add, iI_sub, iI_mul, iI_neg, List.length_cons, List.length_nil, ↓reduceIte, va_rf_some, exR, wiR, wkW, wkR, orR, rdR, iI_eq, iI_n0]
    exact hQ V A ⟨fun _ _ => rfl, fun _ _ => rfl, h.sc⟩
end
