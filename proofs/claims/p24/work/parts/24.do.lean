/-! WHAT CHANGES THE STATE -/
theorem gapp_lt {α : Type} {l : List α} {k z : α} {i : Nat} (h : i < l.length) : (l ++ [k]).getD i z = l.getD i z := by
  simp only [List.getD_eq_getElem?_getD, List.getElem?_append_left h]
theorem gapp_eq {α : Type} (l : List α) (k z : α) : (l ++ [k]).getD l.length z = k := by
  simp [List.getD_eq_getElem?_getD]
theorem gtail {α : Type} (l : List α) (z : α) (i : Nat) : l.tail.getD i z = l.getD (i + 1) z := by
  cases l <;> simp [List.getD_eq_getElem?_getD]
/-- what every call leaves alone -/
def fr (V V' : Nat → Nat → Value) (A A' : Nat → Nat → Int32) : Prop := (∀ a, 62 ≤ a → V' a = V a) ∧ ∀ a, a < 3 ∨ 62 ≤ a → A' a = A a
theorem fr.tr {V V' V2 : Nat → Nat → Value} {A A' A2 : Nat → Nat → Int32} (h : fr V V' A A') (k : fr V' V2 A' A2) : fr V V2 A A2 :=
  ⟨fun a ha => (k.1 a ha).trans (h.1 a ha), fun a ha => (k.2 a ha).trans (h.2 a ha)⟩
theorem fr.tabs {t : mL} {V V' : Nat → Nat → Value} {A A' : Nat → Nat → Int32} (h : fr V V' A A') (hT : tabs t A) : tabs t A' := by
  obtain ⟨q1, q2, q3, q4, q5, q6⟩ := hT
  exact ⟨q1, q2, q3, q4, fun j => by rw [h.2 0 (by omega)]; exact q5 j, fun j => by rw [h.2 1 (by omega)]; exact q6 j⟩
theorem fq.fr {V V' : Nat → Nat → Value} {A A' : Nat → Nat → Int32} (h : fq V V' A A') : fr V V' A A' := ⟨fun a ha => h.1 a (by omega), fun a ha => h.2.1 a (by omega)⟩
theorem scr_eq {V V' : Nat → Nat → Value} (hs : scr V) (h : ∀ a, 13 ≤ a ∧ a ≤ 29 → V' a = V a) : scr V' := by
  obtain ⟨⟨f, u, m, fi, br, bl, lo, q1, q2, q3⟩, q4, q5, q6⟩ := hs
  exact ⟨⟨f, u, m, fi, br, bl, lo, by rw [h _ (by omega)]; exact q1, by rw [h _ (by omega)]; exact q2, by rw [h _ (by omega)]; exact q3⟩, by rw [h _ (by omega)]; exact q4, fun j hj => by rw [h _ (by omega)]; exact q5 j hj, by rw [h _ (by omega)]; exact q6⟩
def pu (U : List aW) (X : aW) : List aW := (if U.length = 6 then U.tail else U) ++ [X]
/-- the wire is another -/
theorem RX.wire {V V' : Nat → Nat → Value} {A A' : Nat → Nat → Int32} {P : Nat → Nat → Option Nat} {S : aS} {e : Nat → Nat} {X' : aW} (h : RX V A P S e) (hw : wiH V' A' 4 X') (hX : wf X') (hV : ∀ a, a ≠ 4 → V' a = V a) (hA : ∀ a, ¬ (5 ≤ a ∧ a ≤ 7) → A' a = A a) : RX V' A' P (aS.mk X' S.U S.I S.T) e := by
  refine ⟨by rw [hV 3 (by omega)]; exact h.ob, hw, hX, h.ul, h.ep, h.ei, fun j hj => ?_, fun i hi => ?_, h.ip, fun j hj => ?_, fun i hi => imH_eq (h.im i hi) (hV _ (by omega)) (by rw [hA _ (by omega)]) (hA _ (by omega)) (hA _ (by omega)) (hA _ (by omega)), h.tl, fun i hi => by rw [hA _ (by omega)]; exact h.tx i hi, scr_eq h.sc (fun a ha => hV a (by omega)), h.op⟩
  · rw [hV _ (by omega)]; exact h.er j hj
  · exact ⟨wiH_eq (h.ew i hi).1 (hV _ (by omega)) (hA _ (by omega)) (hA _ (by omega)) (hA _ (by omega)), (h.ew i hi).2⟩
  · rw [hV _ (by omega)]; exact h.ir j hj
section
variable {d : Nat} {t : mL} {V : Nat → Nat → Value} {A : Nat → Nat → Int32} {P : Nat → Nat → Option Nat} {μ : mM} {Q : Option Value → mM → Prop} {S : aS} {e : Nat → Nat}
set_option maxHeartbeats 400000 in
theorem k_forgetOldest {l i u : Int} (hK : exK t) (hx : V 3 = exR l i u) (he : ∀ i, i < 6 → P 8 i = some (30 + 4 * e i) ∧ e i < 6) (hQ : ∀ P' : Nat → Nat → Option Nat, (∀ i, i < 5 → P' 8 i = P 8 (i + 1)) → P' 8 5 = P 8 0 → (∀ a, a ≠ 8 → P' a = P a) → Q none (t, up1 V 3 (exR l i 5), A, P')) : Call (d + 1) 63 [.ref 3] (t, V, A, P) Q := by
  have k0 := hK.1
  obtain ⟨k8, k8l⟩ := hK.2.2.1
  have p0 := he 0 (by omega)
  have p1 := he 1 (by omega)
  have p2 := he 2 (by omega)
  have p3 := he 3 (by omega)
  have p4 := he 4 (by omega)
  have p5 := he 5 (by omega)
  have w0 := (hK.2.2.2.2.2.2.2.2.2.2.1 _ p0.2).1
  have w1 := (hK.2.2.2.2.2.2.2.2.2.2.1 _ p1.2).1
  have w2 := (hK.2.2.2.2.2.2.2.2.2.2.1 _ p2.2).1
  have w3 := (hK.2.2.2.2.2.2.2.2.2.2.1 _ p3.2).1
  have w4 := (hK.2.2.2.2.2.2.2.2.2.2.1 _ p4.2).1
  have w5 := (hK.2.2.2.2.2.2.2.2.2.2.1 _ p5.2).1
  simp (disch := first | assumption | omega | exact isB_z | exact isB_o | exact iI_in' (by assumption) (by omega) (by omega) | exact cat_int _ | exact cat_ref _ | exact cat_null | decide) only [c_63, ↓x_63_0, ↓x_63_1, ↓x_63_4, ↓x_63_5, ↓x_63_6, ↓x_63_7, ↓x_63_8, up1_same, up1_ne, up1_up1, us_0, us_1, us_2, us_3, us_4, us_5, us_6, us_7, us_8, us_9, us_10, us_11, rw_zero, rw_succ, Option.toList_some, Option.toList_none, List.cons_append, List.nil_append, cat_int, cat_ref, cat_null, iI_add, iI_sub, iI_mul, iI_neg, List.length_cons, List.length_nil, ↓reduceIte, va_rf_some, exR, wiR, wkW, wkR, orR, rdR, hx, iI_cl, Int.reduceToNat, p0.1]
  simp (disch := first | assumption | omega | exact isB_z | exact isB_o | exact iI_in' (by assumption) (by omega) (by omega) | exact cat_int _ | exact cat_ref _ | exact cat_null | decide) only [↓x_63_0, ↓x_63_1, ↓x_63_4, ↓x_63_5, ↓x_63_6, ↓x_63_7, ↓x_63_8, ↓x_63_9, ↓x_63_10, ↓x_63_12, ↓x_63_15, ↓x_63_16, ↓x_63_19, ↓x_63_20, ↓x_63_21, ↓x_63_22, ↓x_63_23, ↓x_63_26, ↓x_63_27, ↓x_63_28, ↓x_63_29, ↓x_63_32, ↓x_63_35, ↓x_63_36, ↓x_63_39, ↓x_63_40, ↓x_63_41, ↓x_63_42, ↓x_63_43, ↓x_63_44, ↓x_63_47, up1_same, up1_ne, up1_up1, us_0, us_1, us_2, us_3, us_4, us_5, us_6, us_7, us_8, us_9, us_10, us_11, rw_zero, rw_succ, Option.toList_some, Option.toList_none, List.cons_append, List.nil_append, cat_int, cat_ref, cat_null, iI_add, iI_sub, iI_mul, iI_neg, List.length_cons, List.length_nil, ↓reduceIte, va_rf_some, exR, wiR, wkW, wkR, orR, rdR, hx, iI_lt, Int.reduceLT, Int.reduceAdd, Int.reduceSub, if_true, if_false, iI_cl, Int.reduceToNat, p1.1, p2.1, p3.1, p4.1, p5.1]
  refine hQ _ (fun i hi => ?_) ?_ (fun a ha => ?_)
  · rw [up1_same]
    match i, hi with
    | 0, _ => rw [p1.1]; rfl
    | 1, _ => rw [p2.1]; rfl
    | 2, _ => rw [p3.1]; rfl
    | 3, _ => rw [p4.1]; rfl
    | 4, _ => rw [p5.1]; rfl
    | n + 5, h => omega
  · rw [up1_same, p0.1]; rfl
  · rw [up1_ne ha]
set_option maxHeartbeats 400000 in
theorem rem_push {it : Int} (hK : exK t) (h : RX V A P S e) (hx : V 3 = exR S.T.length it S.U.length) (hU : S.U.length < 6) (hQ : ∀ (V' : Nat → Nat → Value) (A' : Nat → Nat → Int32), RX V' A' P (aS.mk S.X (S.U ++ [S.X]) S.I S.T) e → fr V V' A A' → V' 3 = exR S.T.length it (S.U ++ [S.X]).length → A' 12 = A 12 → Q none (t, V', A', P)) : Ev (d + 1) 62 13 [.ref 3] [] (t, V, A, P) Q := by
  have k0 := hK.1
  obtain ⟨k8, k8l⟩ := hK.2.2.1
  obtain ⟨hp, hel⟩ := h.ep S.U.length hU
  have kw := hK.2.2.2.2.2.2.2.2.2.2.1 (e S.U.length) hel
  have e1 : ¬ (S.U.length : Int) < 0 := by omega
  have e2 : (S.U.length : Int) < 6 := by omega
  have tn : ((S.U.length : Nat) : Int).toNat = S.U.length := Int.toNat_natCast _
  obtain ⟨ee, hee⟩ : ∃ ee, ee = e S.U.length := ⟨_, rfl⟩
  rw [← hee] at hp hel kw
  simp (disch := first | assumption | omega | exact isB_z | exact isB_o | exact iI_in' (by assumption) (by omega) (by omega) | exact cat_int _ | exact cat_ref _ | exact cat_null | decide) only [↓x_62_13, ↓x_62_14, ↓x_62_17, ↓x_62_20, ↓x_62_21, ↓x_62_24, ↓x_62_26, ↓x_62_29, ↓x_62_30, ↓x_62_31, ↓x_62_34, ↓x_62_35, ↓x_62_38, ↓x_62_39, ↓x_62_42, up1_same, up1_ne, up1_up1, us_0, us_1, us_2, us_3, us_4, us_5, us_6, us_7, us_8, us_9, us_10, us_11, rw_zero, rw_succ, Option.toList_some, Option.toList_none, List.cons_append, List.nil_append, cat_int, cat_ref, cat_null, iI_add, iI_sub, iI_mul, iI_neg, List.length_cons, List.length_nil, ↓reduceIte, va_rf_some, exR, wiR, wkW, wkR, orR, rdR, hx, iI_lt, iI_n0, e1, e2, if_true, if_false, iI_cl, tn, hp]
  simp (disch := first | assumption | omega | exact isB_z | exact isB_o | exact iI_in' (by assumption) (by omega) (by omega) | exact cat_int _ | exact cat_ref _ | exact cat_null | decide) only [↓x_62_43, up1_same, up1_ne, up1_up1, us_0, us_1, us_2, us_3, us_4, us_5, us_6, us_7, us_8, us_9, us_10, us_11, rw_zero, rw_succ, Option.toList_some, Option.toList_none, List.cons_append, List.nil_append, cat_int, cat_ref, cat_null, iI_add, iI_sub, iI_mul, iI_neg, List.length_cons, List.length_nil, ↓reduceIte, va_rf_some, exR, wiR, wkW, wkR, orR, rdR]
  refine k_carry hK.2.1 kw h.wi (h.er ee hel) h.wo (by omega) (fun A' q1 q2 => ?_)
  have ci : (S.U.length : Int) + 1 = ((S.U ++ [S.X]).length : Int) := by simp
  simp (disch := first | assumption | omega | exact isB_z | exact isB_o | exact iI_in' (by assumption) (by omega) (by omega) | exact cat_int _ | exact cat_ref _ | exact cat_null | decide) only [↓x_62_46, ↓x_62_47, ↓x_62_48, ↓x_62_51, ↓x_62_52, ↓x_62_53, ↓x_62_56, up1_same, up1_ne, up1_up1, us_0, us_1, us_2, us_3, us_4, us_5, us_6, us_7, us_8, us_9, us_10, us_11, rw_zero, rw_succ, Option.toList_some, Option.toList_none, List.cons_append, List.nil_append, cat_int, cat_ref, cat_null, iI_add, iI_sub, iI_mul, iI_neg, List.length_cons, List.length_nil, ↓reduceIte, va_rf_some, exR, wiR, wkW, wkR, orR, rdR, hx, ci]
  refine hQ _ A' ⟨⟨it, up1_same _ _ _⟩, wiH_eq h.wi (by rw [up1_ne (by omega), up1_ne (by omega)]) (q1 _ (by omega)) (q1 _ (by omega)) (q1 _ (by omega)), h.wo, by show (S.U ++ [S.X]).length ≤ 6; simp; omega, h.ep, h.ei, fun j hj => ?_, fun i hi => ?_, h.ip, fun j hj => ?_, fun i hi => imH_eq (h.im i hi) (by rw [up1_ne (by omega), up1_ne (by omega)]) (by rw [q1 _ (by omega)]) (q1 _ (by omega)) (q1 _ (by omega)) (q1 _ (by omega)), h.tl, fun i hi => by rw [q1 _ (by omega)]; exact h.tx i hi, scr_eq h.sc (fun a ha => by rw [up1_ne (by omega), up1_ne (by omega)]), h.op⟩ ⟨fun a ha => by rw [up1_ne (by omega), up1_ne (by omega)], fun a ha => q1 a (by omega)⟩ (up1_same _ _ _) (q1 12 (by omega))
  · rw [up1_ne (by omega)]
    by_cases c : j = ee
    · subst c; rw [up1_same]; exact ⟨_, _, _, _, rfl⟩
    · rw [up1_ne (by omega)]; exact h.er j hj
  · have hi0 : i < (S.U ++ [S.X]).length := hi
    have hi' : i < S.U.length + 1 := by simpa using hi0
    by_cases c : i = S.U.length
    · subst c
      rw [← hee]
      rw [show (aS.mk S.X (S.U ++ [S.X]) S.I S.T).U = S.U ++ [S.X] from rfl, gapp_eq]
      exact ⟨wiH_eq q2 (up1_ne (by omega)) rfl rfl rfl, h.wo⟩
    · have hi2 : i < S.U.length := by omega
      have hne : e i ≠ ee := fun hh => c (h.ei i S.U.length (by omega) hU (hh.trans hee))
      have := h.ep i (by omega)
      rw [show (aS.mk S.X (S.U ++ [S.X]) S.I S.T).U = S.U ++ [S.X] from rfl, gapp_lt hi2]
      exact ⟨wiH_eq (h.ew i hi2).1 (by rw [up1_ne (by omega), up1_ne (by omega)]) (q1 _ (by omega)) (q1 _ (by omega)) (q1 _ (by omega)), (h.ew i hi2).2⟩
  · rw [up1_ne (by omega), up1_ne (by omega)]; exact h.ir j hj
set_option maxHeartbeats 400000 in
theorem k_remember2 {it : Int} (hK : exK t) (h : RX V A P S e) (hx : V 3 = exR S.T.length it S.U.length) (hQ : ∀ (V' : Nat → Nat → Value) (A' : Nat → Nat → Int32) (P' : Nat → Nat → Option Nat) (e' : Nat → Nat), RX V' A' P' (aS.mk S.X (pu S.U S.X) S.I S.T) e' → fr V V' A A' → V' 3 = exR S.T.length it (pu S.U S.X).length → A' 12 = A 12 → Q none (t, V', A', P')) : Call (d + 2) 62 [.ref 3] (t, V, A, P) Q := by
  have k0 := hK.1
  have hul := h.ul
  by_cases c : S.U.length < 6
  · have c' : (S.U.length : Int) < 6 := by omega
    have hp : pu S.U S.X = S.U ++ [S.X] := by unfold pu; rw [if_neg (by omega)]
    rw [hp] at hQ
    simp (disch := first | assumption | omega | exact isB_z | exact isB_o | exact iI_in' (by assumption) (by omega) (by omega) | exact cat_int _ | exact cat_ref _ | exact cat_null | decide) only [c_62, ↓x_62_0, ↓x_62_1, ↓x_62_4, ↓x_62_6, up1_same, up1_ne, up1_up1, us_0, us_1, us_2, us_3, us_4, us_5, us_6, us_7, us_8, us_9, us_10, us_11, rw_zero, rw_succ, Option.toList_some, Option.toList_none, List.cons_append, List.nil_append, cat_int, cat_ref, cat_null, iI_add, iI_sub, iI_mul, iI_neg, List.length_cons, List.length_nil, ↓reduceIte, va_rf_some, exR, wiR, wkW, wkR, orR, rdR, hx, iI_lt, c', if_true]
    exact rem_push hK h hx c (fun V' A' q1 q2 q3 q4 => hQ V' A' P e q1 q2 q3 q4)
  · have c' : ¬ (S.U.length : Int) < 6 := by omega
    have c6 : S.U.length = 6 := by omega
    have hp : pu S.U S.X = S.U.tail ++ [S.X] := by unfold pu; rw [if_pos c6]
    rw [hp] at hQ
    simp (disch := first | assumption | omega | exact isB_z | exact isB_o | exact iI_in' (by assumption) (by omega) (by omega) | exact cat_int _ | exact cat_ref _ | exact cat_null | decide) only [c_62, ↓x_62_0, ↓x_62_1, ↓x_62_4, ↓x_62_6, ↓x_62_9, ↓x_62_10, up1_same, up1_ne, up1_up1, us_0, us_1, us_2, us_3, us_4, us_5, us_6, us_7, us_8, us_9, us_10, us_11, rw_zero, rw_succ, Option.toList_some, Option.toList_none, List.cons_append, List.nil_append, cat_int, cat_ref, cat_null, iI_add, iI_sub, iI_mul, iI_neg, List.length_cons, List.length_nil, ↓reduceIte, va_rf_some, exR, wiR, wkW, wkR, orR, rdR, hx, iI_lt, c', if_false]
    refine k_forgetOldest (e := e) hK hx h.ep (fun P' p1 p2 p3 => ?_)
    have ht : S.U.tail.length = 5 := by simp; omega
    have h' : RX (up1 V 3 (exR S.T.length it 5)) A P' (aS.mk S.X S.U.tail S.I S.T) (fun i => if i = 5 then e 0 else if i < 5 then e (i + 1) else e i) := by
      refine ⟨⟨it, ?_⟩, wiH_eq h.wi (up1_ne (by omega)) rfl rfl rfl, h.wo, ?_, fun i hi => ?_, fun i j hi hj hij => ?_, fun j hj => ?_, fun i hi => ?_, fun i hi => ?_, fun j hj => ?_, fun i hi => imH_eq (h.im i hi) (up1_ne (by omega)) rfl rfl rfl rfl, h.tl, h.tx, scr_eq h.sc (fun a ha => up1_ne (by omega)), fun j hj => ?_⟩
      · rw [show ((aS.mk S.X S.U.tail S.I S.T).U.length : Int) = 5 from by show ((S.U.tail.length : Nat) : Int) = 5; omega]
        exact up1_same _ _ _
      · show S.U.tail.length ≤ 6; omega
      · by_cases g : i = 5
        · subst g; simp only [if_true]; rw [p2]; exact h.ep 0 (by omega)
        · have g2 : i < 5 := by omega
          simp only [g, g2, if_true, if_false]; rw [p1 i g2]; exact h.ep (i + 1) (by omega)
      · by_cases g : i = 5
        · by_cases g' : j = 5
          · omega
          · have g2 : j < 5 := by omega
            simp only [g, g', g2, if_true, if_false] at hij
            have := h.ei 0 (j + 1) (by omega) (by omega) hij
            omega
        · have g3 : i < 5 := by omega
          by_cases g' : j = 5
          · simp only [g, g', g3, if_true, if_false] at hij
            have := h.ei (i + 1) 0 (by omega) (by omega) hij
            omega
          · have g2 : j < 5 := by omega
            simp only [g, g', g2, g3, if_true, if_false] at hij
            have := h.ei (i + 1) (j + 1) (by omega) (by omega) hij
            omega
      · rw [up1_ne (by omega)]; exact h.er j hj
      · have hi0 : i < S.U.tail.length := hi
        have g : ¬ i = 5 := by omega
        have g2 : i < 5 := by omega
        simp only [g, g2, if_true, if_false]
        rw [show (aS.mk S.X S.U.tail S.I S.T).U = S.U.tail from rfl, gtail]
        have := h.ew (i + 1) (by omega)
        have hee := h.ep (i + 1) (by omega)
        exact ⟨wiH_eq this.1 (up1_ne (by omega)) rfl rfl rfl, this.2⟩
      · rw [p3 9 (by omega)]; exact h.ip i hi
      · rw [up1_ne (by omega)]; exact h.ir j hj
      · rw [p3 18 (by omega)]; exact h.op j hj
    simp only [Option.toList_none, List.nil_append]
    refine rem_push (it := it) hK h' (by rw [show ((aS.mk S.X S.U.tail S.I S.T).U.length : Int) = 5 from by show ((S.U.tail.length : Nat) : Int) = 5; omega]; exact up1_same _ _ _) (by show S.U.tail.length < 6; omega) (fun V' A' q1 q2 q3 q4 => hQ V' A' P' _ q1 ?_ q3 q4)
    exact fr.tr ⟨fun a ha => up1_ne (by omega), fun _ _ => rfl⟩ q2
theorem k_remember (hK : exK t) (h : RX V A P S e) (hQ : ∀ (V' : Nat → Nat → Value) (A' : Nat → Nat → Int32) (P' : Nat → Nat → Option Nat) (e' : Nat → Nat), RX V' A' P' (aS.mk S.X (pu S.U S.X) S.I S.T) e' → fr V V' A A' → Q none (t, V', A', P')) : Call (d + 2) 62 [.ref 3] (t, V, A, P) Q := by
  obtain ⟨it, hx⟩ := h.ob
  exact k_remember2 hK h hx (fun V' A' P' e' q1 q2 _ _ => hQ V' A' P' e' q1 q2)
end
