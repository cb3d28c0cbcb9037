/-! THE MODEL: reading, piece by piece -/
def rdU (A : Nat → Nat → Int32) (p : Nat) (n r b s : Int) : Nat → Nat → Int32 := up1 (up1 (up1 (up1 A 71 (upd (A 71) p (iI n))) 72 (upd (A 72) p (iI r))) 73 (upd (A 73) p (iI b))) 74 (upd (A 74) p (iI s))
theorem wk_last (X : aW) (tu f u : Int) (p : Nat) : (wkG (gB X tu f) u p).2.2.1 = if f + 6 * (p : Int) = f then -9 else bB X tu (f + 6 * (p : Int) - 1) := by
  cases p with
  | zero => rw [if_pos (by omega)]; rfl
  | succ p =>
    rw [if_neg (by omega)]
    show (tkL (wkG (gB X tu f) u p).2 (fbr (gB X tu f p) (wkG (gB X tu f) u p).1) (bt6 (pcB (bB X tu) (f + 6 * (p : Int))))).1.2.1 = _
    rw [bt6_six (bB_b X tu), show f + 6 * ((p + 1 : Nat) : Int) - 1 = f + 6 * (p : Int) + 5 by omega]
    rfl
theorem wk_next (X : aW) (tu f u : Int) (p : Nat) : (wkG (gB X tu f) u (p + 1)).2 = (tkL (wkG (gB X tu f) u p).2 0 (six (bB X tu) (f + 6 * (p : Int)))).1 ∧ brG (gB X tu f) u p = (tkL (wkG (gB X tu f) u p).2 0 (six (bB X tu) (f + 6 * (p : Int)))).2 ||| fbr (gB X tu f p) (wkG (gB X tu f) u p).1 := by
  have h := tkL_or (six (bB X tu) (f + 6 * (p : Int))) (wkG (gB X tu f) u p).2 (fbr (gB X tu f p) (wkG (gB X tu f) u p).1)
  have e : bt6 (gB X tu f p) = six (bB X tu) (f + 6 * (p : Int)) := bt6_six (bB_b X tu) _
  constructor
  · show (tkL (wkG (gB X tu f) u p).2 (fbr (gB X tu f p) (wkG (gB X tu f) u p).1) (bt6 (gB X tu f p))).1 = _
    rw [e]
    exact h.1
  · show (tkL (wkG (gB X tu f) u p).2 (fbr (gB X tu f p) (wkG (gB X tu f) u p).1) (bt6 (gB X tu f p))).2 = _
    rw [e]
    exact h.2
/-- the reading stands in the model's rows -/
def rdM (A : Nat → Nat → Int32) (G : Nat → Int) (u : Int) (p : Nat) : Prop := A 71 p = iI (G p) ∧ A 72 p = iI (if fR (G p) (wkG G u p).1 = true then 1 else 0) ∧ A 73 p = iI (brG G u p : Nat) ∧ A 74 p = iI (wkG G u (p + 1)).1
section
variable {d : Nat} {t : mL} {V : Nat → Nat → Value} {A : Nat → Nat → Int32} {P : Nat → Nat → Option Nat} {μ : mM} {Q : Option Value → mM → Prop} {S : aS} {g : Nat → Int} {X : aW}
set_option maxHeartbeats 1000000 in
theorem reads_tail {n s : Int} {p its : Nat} {f u tu bits lev run a11 a12 : Value} (hK : mK t) (hT : tabL A) (hp : p < 32) (n0 : 0 ≤ n) (n1 : n < 64) (hs : s = -1 ∨ s = 1) (x10 : run.category = 1) (x4 : bits.category = 1) :
    Ev (d + 1) 106 198 [.ref 62, f, u, tu, bits, .int (iI s), lev, run, .int (iI p), .int (iI n), .int (iI (its : Int)), a11, a12] [] (t, up1 V 62 (mdR g), A, P) Q = Ev (d + 1) 106 48 [.ref 62, f, u, tu, bits, .int (iI (sB n s)), lev, run, .int (iI ((p + 1 : Nat) : Int)), .int (iI n), .int (iI (its : Int)), .int (iI (if s < 0 then 1 else 2)), a12] [] (t, up1 V 62 (mdR g), rdU A p n (if fR n s = true then 1 else 0) ((its ||| fbr n s : Nat) : Int) (sB n s), P) Q := by
  have hK' := hK
  obtain ⟨m0, ⟨m1, l1⟩, ⟨m2, l2⟩, ⟨m3, l3⟩, ⟨m4, l4⟩, ⟨m5, l5⟩, ⟨m6, l6⟩, ⟨m7, l7⟩, ⟨m8, l8⟩, ⟨m9, l9⟩, ⟨m10, l10⟩, ⟨m11, l11⟩, ⟨m12, l12⟩, ⟨m13, l13⟩, ⟨m14, l14⟩, m15, l15⟩ := hK
  have tn1 : ((p : Nat) : Int).toNat = p := Int.toNat_natCast _
  have ci : (p : Int) + 1 = ((p + 1 : Nat) : Int) := by omega
  have hi := ifm_at n0 n1
  have hTn := (hT n.toNat (by omega)).2
  rw [Int.toNat_of_nonneg n0] at hTn
  have hp6 := pc_b n0 n1
  obtain ⟨r, hr⟩ : ∃ r : Int, r = if fR n s = true then 1 else 0 := ⟨_, rfl⟩
  have st1 : Ev (d + 1) 106 198 [.ref 62, f, u, tu, bits, .int (iI s), lev, run, .int (iI p), .int (iI n), .int (iI (its : Int)), a11, a12] [] (t, up1 V 62 (mdR g), A, P) Q = Ev (d + 1) 106 244 [.ref 62, f, u, tu, bits, .int (iI s), lev, run, .int (iI p), .int (iI n), .int (iI (its : Int)), .int (iI (if s < 0 then 1 else 2)), a12] [] (t, up1 V 62 (mdR g), up1 (up1 A 71 (upd (A 71) p (iI n))) 72 (upd (A 72) p (iI r)), P) Q := by
    rcases hs with rfl | rfl
    · by_cases c : fR n (-1) = true
      · rw [if_pos c] at hr
        have h1 := hi.1
        rw [if_pos c] at h1
        subst hr
        have e : ((-1 : Int) < 0) = True := by simp
        simp (disch := first | assumption | omega | exact isB_z | exact isB_o | exact iI_in' (by assumption) (by omega) (by omega) | exact cat_int _ | exact cat_ref _ | exact cat_null | decide) only [↓x_106_198, ↓x_106_200, ↓x_106_203, ↓x_106_204, ↓x_106_207, ↓x_106_208, ↓x_106_210, ↓x_106_211, ↓x_106_214, ↓x_106_216, ↓x_106_218, ↓x_106_219, ↓x_106_220, ↓x_106_223, ↓x_106_225, ↓x_106_226, ↓x_106_229, ↓x_106_231, ↓x_106_232, ↓x_106_234, ↓x_106_235, ↓x_106_238, ↓x_106_239, ↓x_106_242, ↓x_106_243, up1_same, up1_ne, up1_up1, us_0, us_1, us_2, us_3, us_4, us_5, us_6, us_7, us_8, us_9, us_10, us_11, rw_zero, rw_succ, Option.toList_some, Option.toList_none, List.cons_append, List.nil_append, cat_int, cat_ref, cat_null, iI_add, iI_sub, iI_mul, iI_neg, List.length_cons, List.length_nil, ↓reduceIte, va_rf_some, Int.reduceToNat, md_0, md_1, md_2, md_3, md_4, md_5, md_6, md_7, md_8, md_9, md_10, md_11, md_12, md_13, md_14, md_15, md_16, md_17, md_18, md_19, md_20, md_21, md_22, md_23, md_24, md_25, md_26, md_27, md_28, md_29, md_30, md_31, mu_0, mu_3, mu_7, mu_9, mu_12, mu_13, mu_14, mu_15, mu_16, mu_17, mu_18, mu_23, mu_24, mu_26, mu_27, mu_28, mu_29, i10, iI_eq, iI_lt, iI_cl, if_true, if_false, and_self, tn1, hTn, h1, e]
      · rw [if_neg c] at hr
        have h1 := hi.1
        rw [if_neg c] at h1
        subst hr
        have e : ((-1 : Int) < 0) = True := by simp
        simp (disch := first | assumption | omega | exact isB_z | exact isB_o | exact iI_in' (by assumption) (by omega) (by omega) | exact cat_int _ | exact cat_ref _ | exact cat_null | decide) only [↓x_106_198, ↓x_106_200, ↓x_106_203, ↓x_106_204, ↓x_106_207, ↓x_106_208, ↓x_106_210, ↓x_106_211, ↓x_106_214, ↓x_106_216, ↓x_106_218, ↓x_106_219, ↓x_106_220, ↓x_106_223, ↓x_106_225, ↓x_106_226, ↓x_106_229, ↓x_106_231, ↓x_106_232, ↓x_106_234, ↓x_106_235, ↓x_106_238, ↓x_106_239, ↓x_106_242, ↓x_106_243, up1_same, up1_ne, up1_up1, us_0, us_1, us_2, us_3, us_4, us_5, us_6, us_7, us_8, us_9, us_10, us_11, rw_zero, rw_succ, Option.toList_some, Option.toList_none, List.cons_append, List.nil_append, cat_int, cat_ref, cat_null, iI_add, iI_sub, iI_mul, iI_neg, List.length_cons, List.length_nil, ↓reduceIte, va_rf_some, Int.reduceToNat, md_0, md_1, md_2, md_3, md_4, md_5, md_6, md_7, md_8, md_9, md_10, md_11, md_12, md_13, md_14, md_15, md_16, md_17, md_18, md_19, md_20, md_21, md_22, md_23, md_24, md_25, md_26, md_27, md_28, md_29, md_30, md_31, mu_0, mu_3, mu_7, mu_9, mu_12, mu_13, mu_14, mu_15, mu_16, mu_17, mu_18, mu_23, mu_24, mu_26, mu_27, mu_28, mu_29, i10, iI_eq, iI_lt, iI_cl, if_true, if_false, and_self, tn1, hTn, h1, e]
    · by_cases c : fR n 1 = true
      · rw [if_pos c] at hr
        have h1 := hi.2.1
        rw [if_pos c] at h1
        subst hr
        have e : ((1 : Int) < 0) = False := by simp
        have e2 : ((2 : Int) = 0) = False := by simp
        simp (disch := first | assumption | omega | exact isB_z | exact isB_o | exact iI_in' (by assumption) (by omega) (by omega) | exact cat_int _ | exact cat_ref _ | exact cat_null | decide) only [↓x_106_198, ↓x_106_200, ↓x_106_203, ↓x_106_204, ↓x_106_207, ↓x_106_208, ↓x_106_210, ↓x_106_211, ↓x_106_214, ↓x_106_216, ↓x_106_218, ↓x_106_219, ↓x_106_220, ↓x_106_223, ↓x_106_225, ↓x_106_226, ↓x_106_229, ↓x_106_231, ↓x_106_232, ↓x_106_234, ↓x_106_235, ↓x_106_238, ↓x_106_239, ↓x_106_242, ↓x_106_243, up1_same, up1_ne, up1_up1, us_0, us_1, us_2, us_3, us_4, us_5, us_6, us_7, us_8, us_9, us_10, us_11, rw_zero, rw_succ, Option.toList_some, Option.toList_none, List.cons_append, List.nil_append, cat_int, cat_ref, cat_null, iI_add, iI_sub, iI_mul, iI_neg, List.length_cons, List.length_nil, ↓reduceIte, va_rf_some, Int.reduceToNat, md_0, md_1, md_2, md_3, md_4, md_5, md_6, md_7, md_8, md_9, md_10, md_11, md_12, md_13, md_14, md_15, md_16, md_17, md_18, md_19, md_20, md_21, md_22, md_23, md_24, md_25, md_26, md_27, md_28, md_29, md_30, md_31, mu_0, mu_3, mu_7, mu_9, mu_12, mu_13, mu_14, mu_15, mu_16, mu_17, mu_18, mu_23, mu_24, mu_26, mu_27, mu_28, mu_29, i10, iI_eq, iI_lt, iI_cl, if_true, if_false, and_self, tn1, hTn, h1, e, e2]
      · rw [if_neg c] at hr
        have h1 := hi.2.1
        rw [if_neg c] at h1
        subst hr
        have e : ((1 : Int) < 0) = False := by simp
        simp (disch := first | assumption | omega | exact isB_z | exact isB_o | exact iI_in' (by assumption) (by omega) (by omega) | exact cat_int _ | exact cat_ref _ | exact cat_null | decide) only [↓x_106_198, ↓x_106_200, ↓x_106_203, ↓x_106_204, ↓x_106_207, ↓x_106_208, ↓x_106_210, ↓x_106_211, ↓x_106_214, ↓x_106_216, ↓x_106_218, ↓x_106_219, ↓x_106_220, ↓x_106_223, ↓x_106_225, ↓x_106_226, ↓x_106_229, ↓x_106_231, ↓x_106_232, ↓x_106_234, ↓x_106_235, ↓x_106_238, ↓x_106_239, ↓x_106_242, ↓x_106_243, up1_same, up1_ne, up1_up1, us_0, us_1, us_2, us_3, us_4, us_5, us_6, us_7, us_8, us_9, us_10, us_11, rw_zero, rw_succ, Option.toList_some, Option.toList_none, List.cons_append, List.nil_append, cat_int, cat_ref, cat_null, iI_add, iI_sub, iI_mul, iI_neg, List.length_cons, List.length_nil, ↓reduceIte, va_rf_some, Int.reduceToNat, md_0, md_1, md_2, md_3, md_4, md_5, md_6, md_7, md_8, md_9, md_10, md_11, md_12, md_13, md_14, md_15, md_16, md_17, md_18, md_19, md_20, md_21, md_22, md_23, md_24, md_25, md_26, md_27, md_28, md_29, md_30, md_31, mu_0, mu_3, mu_7, mu_9, mu_12, mu_13, mu_14, mu_15, mu_16, mu_17, mu_18, mu_23, mu_24, mu_26, mu_27, mu_28, mu_29, i10, iI_eq, iI_lt, iI_cl, if_true, if_false, and_self, tn1, hTn, h1, e]
  rw [st1, ← hr]
  clear st1
  have hfb : fbr n s = if ifm n = 0 then 1 else if r = 0 then 2 else 0 := by
    unfold fbr
    rw [hr]
    by_cases c : mn n = -9
    · rw [if_pos c, if_pos (hi.2.2.1.2 c)]
    · rw [if_neg c, if_neg (fun q => c (hi.2.2.1.1 q))]
      by_cases c2 : fR n s = true
      · rw [if_pos c2, if_pos c2]; rfl
      · rw [if_neg c2, if_neg c2]; rfl
  have hr01 : r = 0 ∨ r = 1 := by rw [hr]; split <;> omega
  rw [hfb]
  clear hfb hr
  generalize (if s < 0 then (1 : Int) else 2) = due
  have st2 : Ev (d + 1) 106 244 [.ref 62, f, u, tu, bits, .int (iI s), lev, run, .int (iI p), .int (iI n), .int (iI (its : Int)), .int (iI due), a12] [] (t, up1 V 62 (mdR g), up1 (up1 A 71 (upd (A 71) p (iI n))) 72 (upd (A 72) p (iI r)), P) Q = Ev (d + 1) 106 283 [.ref 62, f, u, tu, bits, .int (iI s), lev, run, .int (iI p), .int (iI n), .int (iI (its : Int)), .int (iI due), a12] [] (t, up1 V 62 (mdR g), up1 (up1 (up1 A 71 (upd (A 71) p (iI n))) 72 (upd (A 72) p (iI r))) 73 (upd (A 73) p (iI ((its ||| (if ifm n = 0 then 1 else if r = 0 then 2 else 0) : Nat) : Int))), P) Q := by
    by_cases c : ifm n = 0
    · simp (disch := first | assumption | omega | exact isB_z | exact isB_o | exact iI_in' (by assumption) (by omega) (by omega) | exact cat_int _ | exact cat_ref _ | exact cat_null | decide) only [↓x_106_244, ↓x_106_245, ↓x_106_248, ↓x_106_250, ↓x_106_252, ↓x_106_253, ↓x_106_256, ↓x_106_258, ↓x_106_259, ↓x_106_262, ↓x_106_263, ↓x_106_266, ↓x_106_267, ↓x_106_270, ↓x_106_272, ↓x_106_273, ↓x_106_276, ↓x_106_277, ↓x_106_280, ↓x_106_281, ↓x_106_282, up1_same, up1_ne, up1_up1, us_0, us_1, us_2, us_3, us_4, us_5, us_6, us_7, us_8, us_9, us_10, us_11, rw_zero, rw_succ, Option.toList_some, Option.toList_none, List.cons_append, List.nil_append, cat_int, cat_ref, cat_null, iI_add, iI_sub, iI_mul, iI_neg, List.length_cons, List.length_nil, ↓reduceIte, va_rf_some, Int.reduceToNat, md_0, md_1, md_2, md_3, md_4, md_5, md_6, md_7, md_8, md_9, md_10, md_11, md_12, md_13, md_14, md_15, md_16, md_17, md_18, md_19, md_20, md_21, md_22, md_23, md_24, md_25, md_26, md_27, md_28, md_29, md_30, md_31, mu_0, mu_3, mu_7, mu_9, mu_12, mu_13, mu_14, mu_15, mu_16, mu_17, mu_18, mu_23, mu_24, mu_26, mu_27, mu_28, mu_29, i10, iI_eq, iI_lt, iI_cl, if_true, if_false, and_self, tn1, hTn, c, or_1]
    · rcases hr01 with rfl | rfl
      · simp (disch := first | assumption | omega | exact isB_z | exact isB_o | exact iI_in' (by assumption) (by omega) (by omega) | exact cat_int _ | exact cat_ref _ | exact cat_null | decide) only [↓x_106_244, ↓x_106_245, ↓x_106_248, ↓x_106_250, ↓x_106_252, ↓x_106_253, ↓x_106_256, ↓x_106_258, ↓x_106_259, ↓x_106_262, ↓x_106_263, ↓x_106_266, ↓x_106_267, ↓x_106_270, ↓x_106_272, ↓x_106_273, ↓x_106_276, ↓x_106_277, ↓x_106_280, ↓x_106_281, ↓x_106_282, up1_same, up1_ne, up1_up1, us_0, us_1, us_2, us_3, us_4, us_5, us_6, us_7, us_8, us_9, us_10, us_11, rw_zero, rw_succ, Option.toList_some, Option.toList_none, List.cons_append, List.nil_append, cat_int, cat_ref, cat_null, iI_add, iI_sub, iI_mul, iI_neg, List.length_cons, List.length_nil, ↓reduceIte, va_rf_some, Int.reduceToNat, md_0, md_1, md_2, md_3, md_4, md_5, md_6, md_7, md_8, md_9, md_10, md_11, md_12, md_13, md_14, md_15, md_16, md_17, md_18, md_19, md_20, md_21, md_22, md_23, md_24, md_25, md_26, md_27, md_28, md_29, md_30, md_31, mu_0, mu_3, mu_7, mu_9, mu_12, mu_13, mu_14, mu_15, mu_16, mu_17, mu_18, mu_23, mu_24, mu_26, mu_27, mu_28, mu_29, i10, iI_eq, iI_lt, iI_cl, if_true, if_false, and_self, tn1, hTn, c, or_2, upd_same]
      · simp (disch := first | assumption | omega | exact isB_z | exact isB_o | exact iI_in' (by assumption) (by omega) (by omega) | exact cat_int _ | exact cat_ref _ | exact cat_null | decide) only [↓x_106_244, ↓x_106_245, ↓x_106_248, ↓x_106_250, ↓x_106_252, ↓x_106_253, ↓x_106_256, ↓x_106_258, ↓x_106_259, ↓x_106_262, ↓x_106_263, ↓x_106_266, ↓x_106_267, ↓x_106_270, ↓x_106_272, ↓x_106_273, ↓x_106_276, ↓x_106_277, ↓x_106_280, ↓x_106_281, ↓x_106_282, up1_same, up1_ne, up1_up1, us_0, us_1, us_2, us_3, us_4, us_5, us_6, us_7, us_8, us_9, us_10, us_11, rw_zero, rw_succ, Option.toList_some, Option.toList_none, List.cons_append, List.nil_append, cat_int, cat_ref, cat_null, iI_add, iI_sub, iI_mul, iI_neg, List.length_cons, List.length_nil, ↓reduceIte, va_rf_some, Int.reduceToNat, md_0, md_1, md_2, md_3, md_4, md_5, md_6, md_7, md_8, md_9, md_10, md_11, md_12, md_13, md_14, md_15, md_16, md_17, md_18, md_19, md_20, md_21, md_22, md_23, md_24, md_25, md_26, md_27, md_28, md_29, md_30, md_31, mu_0, mu_3, mu_7, mu_9, mu_12, mu_13, mu_14, mu_15, mu_16, mu_17, mu_18, mu_23, mu_24, mu_26, mu_27, mu_28, mu_29, i10, iI_eq, iI_lt, iI_cl, if_true, if_false, and_self, tn1, hTn, c, or_0, upd_same, Nat.or_zero]
  rw [st2]
  clear st2
  unfold rdU
  generalize ((its ||| (if ifm n = 0 then 1 else if r = 0 then 2 else 0) : Nat) : Int) = br
  have hsB : sB n s = if 3 < pcI n then 1 else if pcI n < 3 then -1 else s := by
    unfold sB
    by_cases c : pcI n = 3
    · rw [if_pos c, if_neg (by omega), if_neg (by omega)]
    · rw [if_neg c]
      by_cases c2 : 3 < pcI n
      · rw [if_pos c2, if_pos c2]
      · rw [if_neg c2, if_neg c2, if_pos (by omega)]
  rw [hsB]
  by_cases c : 3 < pcI n
  · simp (disch := first | assumption | omega | exact isB_z | exact isB_o | exact iI_in' (by assumption) (by omega) (by omega) | exact cat_int _ | exact cat_ref _ | exact cat_null | decide) only [↓x_106_283, ↓x_106_285, ↓x_106_288, ↓x_106_289, ↓x_106_292, ↓x_106_293, ↓x_106_296, ↓x_106_298, ↓x_106_301, ↓x_106_302, ↓x_106_305, ↓x_106_306, ↓x_106_309, ↓x_106_311, ↓x_106_313, ↓x_106_314, ↓x_106_317, ↓x_106_319, ↓x_106_321, ↓x_106_322, ↓x_106_325, up1_same, up1_ne, up1_up1, us_0, us_1, us_2, us_3, us_4, us_5, us_6, us_7, us_8, us_9, us_10, us_11, rw_zero, rw_succ, Option.toList_some, Option.toList_none, List.cons_append, List.nil_append, cat_int, cat_ref, cat_null, iI_add, iI_sub, iI_mul, iI_neg, List.length_cons, List.length_nil, ↓reduceIte, va_rf_some, Int.reduceToNat, md_0, md_1, md_2, md_3, md_4, md_5, md_6, md_7, md_8, md_9, md_10, md_11, md_12, md_13, md_14, md_15, md_16, md_17, md_18, md_19, md_20, md_21, md_22, md_23, md_24, md_25, md_26, md_27, md_28, md_29, md_30, md_31, mu_0, mu_3, mu_7, mu_9, mu_12, mu_13, mu_14, mu_15, mu_16, mu_17, mu_18, mu_23, mu_24, mu_26, mu_27, mu_28, mu_29, i10, iI_eq, iI_lt, iI_cl, if_true, if_false, and_self, k_onesM n0 n1, c, tn1, ci]
  · by_cases c2 : pcI n < 3
    · simp (disch := first | assumption | omega | exact isB_z | exact isB_o | exact iI_in' (by assumption) (by omega) (by omega) | exact cat_int _ | exact cat_ref _ | exact cat_null | decide) only [↓x_106_283, ↓x_106_285, ↓x_106_288, ↓x_106_289, ↓x_106_292, ↓x_106_293, ↓x_106_296, ↓x_106_298, ↓x_106_301, ↓x_106_302, ↓x_106_305, ↓x_106_306, ↓x_106_309, ↓x_106_311, ↓x_106_313, ↓x_106_314, ↓x_106_317, ↓x_106_319, ↓x_106_321, ↓x_106_322, ↓x_106_325, up1_same, up1_ne, up1_up1, us_0, us_1, us_2, us_3, us_4, us_5, us_6, us_7, us_8, us_9, us_10, us_11, rw_zero, rw_succ, Option.toList_some, Option.toList_none, List.cons_append, List.nil_append, cat_int, cat_ref, cat_null, iI_add, iI_sub, iI_mul, iI_neg, List.length_cons, List.length_nil, ↓reduceIte, va_rf_some, Int.reduceToNat, md_0, md_1, md_2, md_3, md_4, md_5, md_6, md_7, md_8, md_9, md_10, md_11, md_12, md_13, md_14, md_15, md_16, md_17, md_18, md_19, md_20, md_21, md_22, md_23, md_24, md_25, md_26, md_27, md_28, md_29, md_30, md_31, mu_0, mu_3, mu_7, mu_9, mu_12, mu_13, mu_14, mu_15, mu_16, mu_17, mu_18, mu_23, mu_24, mu_26, mu_27, mu_28, mu_29, i10, iI_eq, iI_lt, iI_cl, if_true, if_false, and_self, k_onesM n0 n1, c, c2, tn1, ci]
    · simp (disch := first | assumption | omega | exact isB_z | exact isB_o | exact iI_in' (by assumption) (by omega) (by omega) | exact cat_int _ | exact cat_ref _ | exact cat_null | decide) only [↓x_106_283, ↓x_106_285, ↓x_106_288, ↓x_106_289, ↓x_106_292, ↓x_106_293, ↓x_106_296, ↓x_106_298, ↓x_106_301, ↓x_106_302, ↓x_106_305, ↓x_106_306, ↓x_106_309, ↓x_106_311, ↓x_106_313, ↓x_106_314, ↓x_106_317, ↓x_106_319, ↓x_106_321, ↓x_106_322, ↓x_106_325, up1_same, up1_ne, up1_up1, us_0, us_1, us_2, us_3, us_4, us_5, us_6, us_7, us_8, us_9, us_10, us_11, rw_zero, rw_succ, Option.toList_some, Option.toList_none, List.cons_append, List.nil_append, cat_int, cat_ref, cat_null, iI_add, iI_sub, iI_mul, iI_neg, List.length_cons, List.length_nil, ↓reduceIte, va_rf_some, Int.reduceToNat, md_0, md_1, md_2, md_3, md_4, md_5, md_6, md_7, md_8, md_9, md_10, md_11, md_12, md_13, md_14, md_15, md_16, md_17, md_18, md_19, md_20, md_21, md_22, md_23, md_24, md_25, md_26, md_27, md_28, md_29, md_30, md_31, mu_0, mu_3, mu_7, mu_9, mu_12, mu_13, mu_14, mu_15, mu_16, mu_17, mu_18, mu_23, mu_24, mu_26, mu_27, mu_28, mu_29, i10, iI_eq, iI_lt, iI_cl, if_true, if_false, and_self, k_onesM n0 n1, c, c2, tn1, ci]
theorem reads_loop {f tu u : Int} {m : Nat} {A0 : Nat → Nat → Int32} {bits : Int32} (hK : mK t) (hX : wf X) (hf : 0 ≤ f ∧ f ≤ 5) (ht : -2147483648 ≤ tu ∧ tu < 2147483648) (hu : u = -1 ∨ u = 1) (h18 : g 18 = m) (hm : m ≤ 32) (hm6 : m = 0 ∨ f + 6 * (m : Int) ≤ 6 * X.1.length) (h63 : mH (A0 63) X) (hT : tabL A0)
    (hQ : ∀ A' : Nat → Nat → Int32, (∀ a, a < 71 ∨ 74 < a → A' a = A0 a) → (∀ p, p < m → rdM A' (gB X tu f) u p) → Q none (t, up1 V 62 (mdR g), A', P)) :
    ∀ (k p : Nat) (A : Nat → Nat → Int32) (a9 a10 a11 a12 : Value), p + k = m → (∀ a, a < 71 ∨ 74 < a → A a = A0 a) → (∀ q, q < p → rdM A (gB X tu f) u q) → a9.category = 1 → a10.category = 1 → a11.category = 1 → a12.category = 1 → Ev (d + 1) 106 48 [.ref 62, .int (iI f), .int (iI u), .int (iI tu), .int bits, .int (iI (wkG (gB X tu f) u p).1), .int (iI (wkG (gB X tu f) u p).2.1), .int (iI (wkG (gB X tu f) u p).2.2.2.1), .int (iI p), a9, a10, a11, a12] [] (t, up1 V 62 (mdR g), A, P) Q := by
  have hK' := hK
  obtain ⟨m0, ⟨m1, l1⟩, ⟨m2, l2⟩, ⟨m3, l3⟩, ⟨m4, l4⟩, ⟨m5, l5⟩, ⟨m6, l6⟩, ⟨m7, l7⟩, ⟨m8, l8⟩, ⟨m9, l9⟩, ⟨m10, l10⟩, ⟨m11, l11⟩, ⟨m12, l12⟩, ⟨m13, l13⟩, ⟨m14, l14⟩, m15, l15⟩ := hK
  intro k
  induction k with
  | zero =>
    intro p A a9 a10 a11 a12 hp hA hR x9 x10 x11 x12
    have : p = m := by omega
    subst this
    have e : ¬ (p : Int) < p := by omega
    rw [x_106_48]
    simp (disch := first | assumption | omega | exact isB_z | exact isB_o | exact iI_in' (by assumption) (by omega) (by omega) | exact cat_int _ | exact cat_ref _ | exact cat_null | decide) only [↓x_106_50, ↓x_106_51, ↓x_106_54, ↓x_106_328, up1_same, up1_ne, up1_up1, us_0, us_1, us_2, us_3, us_4, us_5, us_6, us_7, us_8, us_9, us_10, us_11, rw_zero, rw_succ, Option.toList_some, Option.toList_none, List.cons_append, List.nil_append, cat_int, cat_ref, cat_null, iI_add, iI_sub, iI_mul, iI_neg, List.length_cons, List.length_nil, ↓reduceIte, va_rf_some, Int.reduceToNat, md_0, md_1, md_2, md_3, md_4, md_5, md_6, md_7, md_8, md_9, md_10, md_11, md_12, md_13, md_14, md_15, md_16, md_17, md_18, md_19, md_20, md_21, md_22, md_23, md_24, md_25, md_26, md_27, md_28, md_29, md_30, md_31, mu_0, mu_3, mu_7, mu_9, mu_12, mu_13, mu_14, mu_15, mu_16, mu_17, mu_18, mu_23, mu_24, mu_26, mu_27, mu_28, mu_29, i10, iI_eq, iI_lt, iI_cl, if_true, if_false, and_self, h18, e]
    exact hQ A hA hR
  | succ k ih =>
    intro p A a9 a10 a11 a12 hp hA hR x9 x10 x11 x12
    have e : (p : Int) < m := by omega
    have hOK := wkG_OK (gB X tu f) hu p
    have hs := wkG_s (gB X tu f) hu p
    have hlast := wk_last X tu f u p
    have hnx := wk_next X tu f u p
    have hgb := pcB_b (bB_b X tu) (f + 6 * (p : Int))
    have h63' : mH (A 63) X := by rw [hA 63 (by omega)]; exact h63
    have hT' : tabL A := tabL_eq hT (hA 69 (by omega)) (hA 70 (by omega))
    have hs1 : (wkG (gB X tu f) u (p + 1)).1 = sB (gB X tu f p) (wkG (gB X tu f) u p).1 := rfl
    rw [x_106_48]
    simp (disch := first | assumption | omega | exact isB_z | exact isB_o | exact iI_in' (by assumption) (by omega) (by omega) | exact cat_int _ | exact cat_ref _ | exact cat_null | decide) only [↓x_106_50, ↓x_106_51, ↓x_106_54, ↓x_106_57, ↓x_106_58, ↓x_106_60, ↓x_106_61, ↓x_106_63, ↓x_106_64, ↓x_106_66, ↓x_106_68, ↓x_106_69, ↓x_106_70, up1_same, up1_ne, up1_up1, us_0, us_1, us_2, us_3, us_4, us_5, us_6, us_7, us_8, us_9, us_10, us_11, rw_zero, rw_succ, Option.toList_some, Option.toList_none, List.cons_append, List.nil_append, cat_int, cat_ref, cat_null, iI_add, iI_sub, iI_mul, iI_neg, List.length_cons, List.length_nil, ↓reduceIte, va_rf_some, Int.reduceToNat, md_0, md_1, md_2, md_3, md_4, md_5, md_6, md_7, md_8, md_9, md_10, md_11, md_12, md_13, md_14, md_15, md_16, md_17, md_18, md_19, md_20, md_21, md_22, md_23, md_24, md_25, md_26, md_27, md_28, md_29, md_30, md_31, mu_0, mu_3, mu_7, mu_9, mu_12, mu_13, mu_14, mu_15, mu_16, mu_17, mu_18, mu_23, mu_24, mu_26, mu_27, mu_28, mu_29, i10, iI_eq, iI_lt, iI_cl, if_true, if_false, and_self, h18, e]
    rw [reads_six hK' hX h63' hf (by omega) ht rfl (by omega) hOK (by omega) hlast x12 rfl]
    rw [reads_tail hK' hT' (by omega) hgb.1 hgb.2 hs rfl rfl]
    rw [← hnx.1]
    have hs1' : sB (pcB (bB X tu) (f + 6 * (p : Int))) (wkG (gB X tu f) u p).1 = (wkG (gB X tu f) u (p + 1)).1 := rfl
    have hg1 : pcB (bB X tu) (f + 6 * (p : Int)) = gB X tu f p := rfl
    rw [hs1', hg1, ← hnx.2]
    refine ih (p + 1) _ _ _ _ _ (by omega) (fun a ha => ?_) (fun q hq => ?_) rfl rfl rfl rfl
    · unfold rdU
      rw [up1_ne (by omega), up1_ne (by omega), up1_ne (by omega), up1_ne (by omega)]
      exact hA a ha
    · unfold rdM rdU
      rw [up1_ne (show 71 ≠ 74 by omega), up1_ne (show 71 ≠ 73 by omega), up1_ne (show 71 ≠ 72 by omega), up1_same, up1_ne (show 72 ≠ 74 by omega), up1_ne (show 72 ≠ 73 by omega), up1_same, up1_ne (show 73 ≠ 74 by omega), up1_same, up1_same]
      by_cases c : q = p
      · subst c
        rw [upd_same, upd_same, upd_same, upd_same]
        exact ⟨rfl, rfl, rfl, rfl⟩
      · rw [upd_ne c, upd_ne c, upd_ne c, upd_ne c]
        exact hR q (by omega)
theorem rm_m {X : aW} {f : Int} (hX : wf X) (hf : 0 ≤ f ∧ f ≤ 5) : rm X f = if 6 * (X.1.length : Int) < f then 0 else (6 * (X.1.length : Int) - f) / 6 := by
  unfold rm pN
  by_cases c : (X.1.length : Int) = 0
  · rw [if_pos c]
    split <;> omega
  · rw [if_neg c]
    split
    · rw [if_neg (by omega)]; omega
    · rw [if_neg (by omega)]; omega
theorem k_reads {f tu u : Int} (hK : mK t) (hX : wf X) (hf : 0 ≤ f ∧ f ≤ 5) (ht : -2147483648 ≤ tu ∧ tu < 2147483648) (hu : u = -1 ∨ u = 1) (h63 : mH (A 63) X) (hl : g 12 = 0 ∨ (g 12 = 1 ∧ tabL A))
    (hQ : ∀ (g' : Nat → Int) (A' : Nat → Nat → Int32), g' 12 = 1 → g' 18 = rm X f → (∀ k, k ≠ 12 → k ≠ 18 → g' k = g k) → tabL A' → (∀ a, a < 69 ∨ 74 < a → A' a = A a) → (∀ p : Nat, p < rm X f → rdM A' (gB X tu f) u p) → Q none (t, up1 V 62 (mdR g'), A', P)) : Call (d + 5) 106 [.ref 62, .int (iI f), .int (iI u), .int (iI tu)] (t, up1 V 62 (mdR g), A, P) Q := by
  have hK' := hK
  obtain ⟨m0, ⟨m1, l1⟩, ⟨m2, l2⟩, ⟨m3, l3⟩, ⟨m4, l4⟩, ⟨m5, l5⟩, ⟨m6, l6⟩, ⟨m7, l7⟩, ⟨m8, l8⟩, ⟨m9, l9⟩, ⟨m10, l10⟩, ⟨m11, l11⟩, ⟨m12, l12⟩, ⟨m13, l13⟩, ⟨m14, l14⟩, m15, l15⟩ := hK
  have hlen := hX.1
  have hrb := rm_b (f := f) hX
  simp (disch := first | assumption | omega | exact isB_z | exact isB_o | exact iI_in' (by assumption) (by omega) (by omega) | exact cat_int _ | exact cat_ref _ | exact cat_null | decide) only [c_106, ↓x_106_0, ↓x_106_1, up1_same, up1_ne, up1_up1, us_0, us_1, us_2, us_3, us_4, us_5, us_6, us_7, us_8, us_9, us_10, us_11, rw_zero, rw_succ, Option.toList_some, Option.toList_none, List.cons_append, List.nil_append, cat_int, cat_ref, cat_null, iI_add, iI_sub, iI_mul, iI_neg, List.length_cons, List.length_nil, ↓reduceIte, va_rf_some, Int.reduceToNat, md_0, md_1, md_2, md_3, md_4, md_5, md_6, md_7, md_8, md_9, md_10, md_11, md_12, md_13, md_14, md_15, md_16, md_17, md_18, md_19, md_20, md_21, md_22, md_23, md_24, md_25, md_26, md_27, md_28, md_29, md_30, md_31, mu_0, mu_3, mu_7, mu_9, mu_12, mu_13, mu_14, mu_15, mu_16, mu_17, mu_18, mu_23, mu_24, mu_26, mu_27, mu_28, mu_29]
  refine k_lays hK' hl (fun g1 A1 q1 q2 q3 q4 => ?_)
  have b63 : mH (A1 63) X := by rw [q4 63 (by omega) (by omega)]; exact h63
  have b0 := b63.h0
  obtain ⟨m, hm⟩ : ∃ m : Nat, rm X f = m := ⟨(rm X f).toNat, by omega⟩
  have hrm := rm_m hX hf
  have go : Ev (d + 4) 106 4 [.ref 62, .int (iI f), .int (iI u), .int (iI tu), .null, .null, .null, .null, .null, .null, .null, .null, .null] [] (t, up1 V 62 (mdR g1), A1, P) Q = Ev (d + 4) 106 36 [.ref 62, .int (iI f), .int (iI u), .int (iI tu), .int (iI (6 * (X.1.length : Int))), .null, .null, .null, .null, .null, .null, .null, .null] [] (t, up1 V 62 (mdR (up1 g1 18 (rm X f))), A1, P) Q := by
    rw [hrm]
    by_cases c : 6 * (X.1.length : Int) < f
    · rw [if_pos c]
      simp (disch := first | assumption | omega | exact isB_z | exact isB_o | exact iI_in' (by assumption) (by omega) (by omega) | exact cat_int _ | exact cat_ref _ | exact cat_null | decide) only [↓x_106_4, ↓x_106_6, ↓x_106_7, ↓x_106_10, ↓x_106_11, ↓x_106_12, ↓x_106_13, ↓x_106_15, ↓x_106_16, ↓x_106_18, ↓x_106_19, ↓x_106_22, ↓x_106_23, ↓x_106_26, ↓x_106_28, ↓x_106_29, ↓x_106_30, ↓x_106_32, ↓x_106_33, up1_same, up1_ne, up1_up1, us_0, us_1, us_2, us_3, us_4, us_5, us_6, us_7, us_8, us_9, us_10, us_11, rw_zero, rw_succ, Option.toList_some, Option.toList_none, List.cons_append, List.nil_append, cat_int, cat_ref, cat_null, iI_add, iI_sub, iI_mul, iI_neg, List.length_cons, List.length_nil, ↓reduceIte, va_rf_some, Int.reduceToNat, md_0, md_1, md_2, md_3, md_4, md_5, md_6, md_7, md_8, md_9, md_10, md_11, md_12, md_13, md_14, md_15, md_16, md_17, md_18, md_19, md_20, md_21, md_22, md_23, md_24, md_25, md_26, md_27, md_28, md_29, md_30, md_31, mu_0, mu_3, mu_7, mu_9, mu_12, mu_13, mu_14, mu_15, mu_16, mu_17, mu_18, mu_23, mu_24, mu_26, mu_27, mu_28, mu_29, i10, iI_eq, iI_lt, iI_cl, if_true, if_false, and_self, b0, c]
    · rw [if_neg c]
      simp (disch := first | assumption | omega | exact isB_z | exact isB_o | exact iI_in' (by assumption) (by omega) (by omega) | exact cat_int _ | exact cat_ref _ | exact cat_null | decide) only [↓x_106_4, ↓x_106_6, ↓x_106_7, ↓x_106_10, ↓x_106_11, ↓x_106_12, ↓x_106_13, ↓x_106_15, ↓x_106_16, ↓x_106_18, ↓x_106_19, ↓x_106_22, ↓x_106_23, ↓x_106_26, ↓x_106_28, ↓x_106_29, ↓x_106_30, ↓x_106_32, ↓x_106_33, up1_same, up1_ne, up1_up1, us_0, us_1, us_2, us_3, us_4, us_5, us_6, us_7, us_8, us_9, us_10, us_11, rw_zero, rw_succ, Option.toList_some, Option.toList_none, List.cons_append, List.nil_append, cat_int, cat_ref, cat_null, iI_add, iI_sub, iI_mul, iI_neg, List.length_cons, List.length_nil, ↓reduceIte, va_rf_some, Int.reduceToNat, md_0, md_1, md_2, md_3, md_4, md_5, md_6, md_7, md_8, md_9, md_10, md_11, md_12, md_13, md_14, md_15, md_16, md_17, md_18, md_19, md_20, md_21, md_22, md_23, md_24, md_25, md_26, md_27, md_28, md_29, md_30, md_31, mu_0, mu_3, mu_7, mu_9, mu_12, mu_13, mu_14, mu_15, mu_16, mu_17, mu_18, mu_23, mu_24, mu_26, mu_27, mu_28, mu_29, i10, iI_eq, iI_lt, iI_cl, if_true, if_false, and_self, b0, c, iI_n0, iI_div]
  simp only [Option.toList_none, List.nil_append]
  rw [go, hm]
  clear go
  simp (disch := first | assumption | omega | exact isB_z | exact isB_o | exact iI_in' (by assumption) (by omega) (by omega) | exact cat_int _ | exact cat_ref _ | exact cat_null | decide) only [↓x_106_36, ↓x_106_37, ↓x_106_39, ↓x_106_40, ↓x_106_42, ↓x_106_43, ↓x_106_45, ↓x_106_46, up1_same, up1_ne, up1_up1, us_0, us_1, us_2, us_3, us_4, us_5, us_6, us_7, us_8, us_9, us_10, us_11, rw_zero, rw_succ, Option.toList_some, Option.toList_none, List.cons_append, List.nil_append, cat_int, cat_ref, cat_null, iI_add, iI_sub, iI_mul, iI_neg, List.length_cons, List.length_nil, ↓reduceIte, va_rf_some, Int.reduceToNat, md_0, md_1, md_2, md_3, md_4, md_5, md_6, md_7, md_8, md_9, md_10, md_11, md_12, md_13, md_14, md_15, md_16, md_17, md_18, md_19, md_20, md_21, md_22, md_23, md_24, md_25, md_26, md_27, md_28, md_29, md_30, md_31, mu_0, mu_3, mu_7, mu_9, mu_12, mu_13, mu_14, mu_15, mu_16, mu_17, mu_18, mu_23, mu_24, mu_26, mu_27, mu_28, mu_29]
  refine reads_loop (d := d + 3) (m := m) (u := u) (f := f) (tu := tu) (A0 := A1) hK' hX hf ht hu (up1_same _ _ _) (by omega) (by rw [hm] at hrm; split at hrm <;> omega) b63 q3 (fun A2 r1 r2 => ?_) m 0 A1 _ _ _ _ (by omega) (fun _ _ => rfl) (fun q hq => absurd hq (by omega)) rfl rfl rfl rfl
  refine hQ _ A2 (by rw [up1_ne (by omega)]; exact q1) (by rw [up1_same, hm]) (fun k h1 h2 => by rw [up1_ne h2]; exact q2 k h1) (tabL_eq q3 (r1 69 (by omega)) (r1 70 (by omega))) (fun a ha => by rw [r1 a (by omega)]; exact q4 a (by omega) (by omega)) (fun p hp => r2 p (by omega))
theorem fsF_stay (G : Nat → Int) (u fi : Int) (h : ¬ fi = -9) : ∀ (k p : Nat), fsF G u fi p k = fi := by
  intro k
  induction k with
  | zero => intro p; rfl
  | succ k ih =>
    intro p
    simp only [fsF]
    rw [if_neg h]
    split <;> exact ih _
theorem brG_lt (G : Nat → Int) (u : Int) (p : Nat) : brG G u p < 16 := tkG_lt _ _
theorem first_loop {G : Nat → Int} {u : Int} {m : Nat} (hK : mK t) (h18 : g 18 = m) (hm : m ≤ 32) (hR : ∀ p, p < m → rdM A G u p) : ∀ (k p : Nat), p + k = m → Ev d 107 2 [.ref 62, .int (iI p)] [] (t, up1 V 62 (mdR g), A, P) Q = Q (some (.int (iI (fsF G u (-9) p k)))) (t, up1 V 62 (mdR g), A, P) := by
  obtain ⟨m0, ⟨m1, l1⟩, ⟨m2, l2⟩, ⟨m3, l3⟩, ⟨m4, l4⟩, ⟨m5, l5⟩, ⟨m6, l6⟩, ⟨m7, l7⟩, ⟨m8, l8⟩, ⟨m9, l9⟩, ⟨m10, l10⟩, ⟨m11, l11⟩, ⟨m12, l12⟩, ⟨m13, l13⟩, ⟨m14, l14⟩, m15, l15⟩ := hK
  intro k
  induction k with
  | zero =>
    intro p hp
    have e : ¬ (p : Int) < m := by omega
    rw [x_107_2]
    simp (disch := first | assumption | omega | exact isB_z | exact isB_o | exact iI_in' (by assumption) (by omega) (by omega) | exact cat_int _ | exact cat_ref _ | exact cat_null | decide) only [↓x_107_3, ↓x_107_4, ↓x_107_7, ↓x_107_25, ↓x_107_26, ↓x_107_27, ↓x_107_30, ↓x_107_33, ↓x_107_34, ↓x_107_37, ↓x_107_39, up1_same, up1_ne, up1_up1, us_0, us_1, us_2, us_3, us_4, us_5, us_6, us_7, us_8, us_9, us_10, us_11, rw_zero, rw_succ, Option.toList_some, Option.toList_none, List.cons_append, List.nil_append, cat_int, cat_ref, cat_null, iI_add, iI_sub, iI_mul, iI_neg, List.length_cons, List.length_nil, ↓reduceIte, va_rf_some, Int.reduceToNat, md_0, md_1, md_2, md_3, md_4, md_5, md_6, md_7, md_8, md_9, md_10, md_11, md_12, md_13, md_14, md_15, md_16, md_17, md_18, md_19, md_20, md_21, md_22, md_23, md_24, md_25, md_26, md_27, md_28, md_29, md_30, md_31, mu_0, mu_3, mu_7, mu_9, mu_12, mu_13, mu_14, mu_15, mu_16, mu_17, mu_18, mu_23, mu_24, mu_26, mu_27, mu_28, mu_29, i10, iI_eq, iI_lt, iI_cl, if_true, if_false, and_self, h18, e, fsF]
  | succ k ih =>
    intro p hp
    have e : (p : Int) < m := by omega
    have tn1 : ((p : Nat) : Int).toNat = p := Int.toNat_natCast _
    have ci : (p : Int) + 1 = ((p + 1 : Nat) : Int) := by omega
    have hb := (hR p (by omega)).2.2.1
    have hlt := brG_lt G u p
    rw [x_107_2]
    simp only [fsF]
    by_cases c : brG G u p = 0
    · have c' : ((brG G u p : Nat) : Int) = 0 := by omega
      rw [if_pos c, ← ih (p + 1) (by omega)]
      simp (disch := first | assumption | omega | exact isB_z | exact isB_o | exact iI_in' (by assumption) (by omega) (by omega) | exact cat_int _ | exact cat_ref _ | exact cat_null | decide) only [↓x_107_3, ↓x_107_4, ↓x_107_7, ↓x_107_10, ↓x_107_11, ↓x_107_14, ↓x_107_15, ↓x_107_16, ↓x_107_19, ↓x_107_22, up1_same, up1_ne, up1_up1, us_0, us_1, us_2, us_3, us_4, us_5, us_6, us_7, us_8, us_9, us_10, us_11, rw_zero, rw_succ, Option.toList_some, Option.toList_none, List.cons_append, List.nil_append, cat_int, cat_ref, cat_null, iI_add, iI_sub, iI_mul, iI_neg, List.length_cons, List.length_nil, ↓reduceIte, va_rf_some, Int.reduceToNat, md_0, md_1, md_2, md_3, md_4, md_5, md_6, md_7, md_8, md_9, md_10, md_11, md_12, md_13, md_14, md_15, md_16, md_17, md_18, md_19, md_20, md_21, md_22, md_23, md_24, md_25, md_26, md_27, md_28, md_29, md_30, md_31, mu_0, mu_3, mu_7, mu_9, mu_12, mu_13, mu_14, mu_15, mu_16, mu_17, mu_18, mu_23, mu_24, mu_26, mu_27, mu_28, mu_29, i10, iI_eq, iI_lt, iI_cl, if_true, if_false, and_self, h18, e, tn1, hb, c', ci]
    · have c' : ¬ ((brG G u p : Nat) : Int) = 0 := by omega
      rw [if_neg c, if_pos trivial, fsF_stay _ _ _ (by omega)]
      simp (disch := first | assumption | omega | exact isB_z | exact isB_o | exact iI_in' (by assumption) (by omega) (by omega) | exact cat_int _ | exact cat_ref _ | exact cat_null | decide) only [↓x_107_3, ↓x_107_4, ↓x_107_7, ↓x_107_10, ↓x_107_11, ↓x_107_14, ↓x_107_15, ↓x_107_16, ↓x_107_25, ↓x_107_26, ↓x_107_27, ↓x_107_30, ↓x_107_33, ↓x_107_34, ↓x_107_37, ↓x_107_39, up1_same, up1_ne, up1_up1, us_0, us_1, us_2, us_3, us_4, us_5, us_6, us_7, us_8, us_9, us_10, us_11, rw_zero, rw_succ, Option.toList_some, Option.toList_none, List.cons_append, List.nil_append, cat_int, cat_ref, cat_null, iI_add, iI_sub, iI_mul, iI_neg, List.length_cons, List.length_nil, ↓reduceIte, va_rf_some, Int.reduceToNat, md_0, md_1, md_2, md_3, md_4, md_5, md_6, md_7, md_8, md_9, md_10, md_11, md_12, md_13, md_14, md_15, md_16, md_17, md_18, md_19, md_20, md_21, md_22, md_23, md_24, md_25, md_26, md_27, md_28, md_29, md_30, md_31, mu_0, mu_3, mu_7, mu_9, mu_12, mu_13, mu_14, mu_15, mu_16, mu_17, mu_18, mu_23, mu_24, mu_26, mu_27, mu_28, mu_29, i10, iI_eq, iI_lt, iI_cl, if_true, if_false, and_self, h18, e, tn1, hb, c']
theorem k_firstBreach {G : Nat → Int} {u : Int} {m : Nat} (hK : mK t) (h18 : g 18 = m) (hm : m ≤ 32) (hR : ∀ p, p < m → rdM A G u p) : Call (d + 1) 107 [.ref 62] (t, up1 V 62 (mdR g), A, P) Q = Q (some (.int (iI (fsF G u (-9) 0 m)))) (t, up1 V 62 (mdR g), A, P) := by
  simp (disch := first | assumption | omega | exact isB_z | exact isB_o | exact iI_in' (by assumption) (by omega) (by omega) | exact cat_int _ | exact cat_ref _ | exact cat_null | decide) only [c_107, ↓x_107_0, ↓x_107_1, up1_same, up1_ne, up1_up1, us_0, us_1, us_2, us_3, us_4, us_5, us_6, us_7, us_8, us_9, us_10, us_11, rw_zero, rw_succ, Option.toList_some, Option.toList_none, List.cons_append, List.nil_append, cat_int, cat_ref, cat_null, iI_add, iI_sub, iI_mul, iI_neg, List.length_cons, List.length_nil, ↓reduceIte, va_rf_some, Int.reduceToNat, md_0, md_1, md_2, md_3, md_4, md_5, md_6, md_7, md_8, md_9, md_10, md_11, md_12, md_13, md_14, md_15, md_16, md_17, md_18, md_19, md_20, md_21, md_22, md_23, md_24, md_25, md_26, md_27, md_28, md_29, md_30, md_31, mu_0, mu_3, mu_7, mu_9, mu_12, mu_13, mu_14, mu_15, mu_16, mu_17, mu_18, mu_23, mu_24, mu_26, mu_27, mu_28, mu_29]
  exact first_loop hK h18 hm hR m 0 (by omega)
end
