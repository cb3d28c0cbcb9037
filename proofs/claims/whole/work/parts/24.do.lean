/-! WHAT CHANGES THE STATE -/
theorem gapp_lt {α : Type} {l : List α} {k z : α} {i : Nat} (h : i < l.length) : (l ++ [k]).getD i z = l.getD i z := by
  simp only [List.getD_eq_getElem?_getD, List.getElem?_append_left h]
theorem gapp_eq {α : Type} (l : List α) (k z : α) : (l ++ [k]).getD l.length z = k := by
  simp [List.getD_eq_getElem?_getD]
theorem gtail {α : Type} (l : List α) (z : α) (i : Nat) : l.tail.getD i z = l.getD (i + 1) z := by
  cases l <;> simp [List.getD_eq_getElem?_getD]
/-- what every call leaves alone -/
def fr (V V' : Nat → Nat → Value) (A A' : Nat → Nat → Int32) : Prop := (∀ a, 62 ≤ a → V' a = V a) ∧ ∀ a, a < 3 ∨ 62 ≤ a → A' a = A a
theorem fr.tr {V V' V2 : Nat → Nat → Value} {A A' A2 : Nat → Nat → Int32} (h : fr V V' A A') (k : fr V' V2 A' A2) : fr V V2 A A2 :=
  ⟨fun a ha => (k.1 a ha).trans (h.1 a ha), fun a ha => (k.2 a ha).trans (h.2 a ha)⟩
theorem fr.tabs {t : mL} {V V' : Nat → Nat → Value} {A A' : Nat → Nat → Int32} (h : fr V V' A A') (hT : tabs t A) : tabs t A' := by
  obtain ⟨q1, q2, q3, q4, q5, q6⟩ := hT
  exact ⟨q1, q2, q3, q4, fun j => by rw [h.2 0 (by omega)]; exact q5 j, fun j => by rw [h.2 1 (by omega)]; exact q6 j⟩
theorem fq.fr {V V' : Nat → Nat → Value} {A A' : Nat → Nat → Int32} (h : fq V V' A A') : fr V V' A A' := ⟨fun a ha => h.1 a (by omega), fun a ha => h.2.1 a (by omega)⟩
theorem scr_eq {V V' : Nat → Nat → Value} (hs : scr V) (h : ∀ a, 13 ≤ a ∧ a ≤ 29 → V' a = V a) : scr V' := by
  obtain ⟨⟨f, u, m, fi, br, bl, lo, q1, q2, q3⟩, q4, q5, q6⟩ := hs
  exact ⟨⟨f, u, m, fi, br, bl, lo, by rw [h _ (by omega)]; exact q1, by rw [h _ (by omega)]; exact q2, by rw [h _ (by omega)]; exact q3⟩, by rw [h _ (by omega)]; exact q4, fun j hj => by rw [h _ (by omega)]; exact q5 j hj, by rw [h _ (by omega)]; exact q6⟩
def pu (U : List aW) (X : aW) : List aW := (if U.length = 6 then U.tail else U) ++ [X]
/-- the wire is another -/
theorem RX.wire {V V' : Nat → Nat → Value} {A A' : Nat → Nat → Int32} {P : Nat → Nat → Option Nat} {S : aS} {e : Nat → Nat} {X' : aW} (h : RX V A P S e) (hw : wiH V' A' 4 X') (hX : wf X') (hV : ∀ a, a ≠ 4 → V' a = V a) (hA : ∀ a, ¬ (5 ≤ a ∧ a ≤ 7) → A' a = A a) : RX V' A' P (aS.mk X' S.U S.I S.T) e := by
  refine ⟨by rw [hV 3 (by omega)]; exact h.ob, hw, hX, h.ul, h.ep, h.ei, fun j hj => ?_, fun i hi => ?_, h.ip, fun j hj => ?_, fun i hi => imH_eq (h.im i hi) (hV _ (by omega)) (by rw [hA _ (by omega)]) (hA _ (by omega)) (hA _ (by omega)) (hA _ (by omega)), h.tl, fun i hi => by rw [hA _ (by omega)]; exact h.tx i hi, scr_eq h.sc (fun a ha => hV a (by omega)), h.op⟩
  · rw [hV _ (by omega)]; exact h.er j hj
  · exact ⟨wiH_eq (h.ew i hi).1 (hV _ (by omega)) (hA _ (by omega)) (hA _ (by omega)) (hA _ (by omega)), (h.ew i hi).2⟩
  · rw [hV _ (by omega)]; exact h.ir j hj
section
variable {d : Nat} {t : mL} {V : Nat → Nat → Value} {A : Nat → Nat → Int32} {P : Nat → Nat → Option Nat} {μ : mM} {Q : Option Value → mM → Prop} {S : aS} {e : Nat → Nat}
set_option maxHeartbeats 400000 in
theorem k_forgetOldest {l i u : Int} (hK : exK t) (hx : V 3 = exR l i u) (he : ∀ i, i < 6 → P 8 i = some (30 + 4 * e i) ∧ e i < 6) (hQ : ∀ P' : Nat → Nat → Option Nat, (∀ i, i < 5 → P' 8 i = P 8 (i + 1)) → P' 8 5 = P 8 0 → (∀ a, a ≠ 8 → P' a = P a) → Q none (t, up1 V 3 (exR l i 5), A, P')) : Call (d + 1) 67 [.ref 3] (t, V, A, P) Q := by
  have k0 := hK.1
  obtain ⟨k8, k8l⟩ := hK.2.2.1
  have p0 := he 0 (by omega)
  have p1 := he 1 (by omega)
  have p2 := he 2 (by omega)
  have p3 := he 3 (by omega)
  have p4 := he 4 (by omega)
  have p5 := he 5 (by omega)
  have w0 := (hK.2.2.2.2.2.2.2.2.2.2.1 _ p0.2).1
  have w1 := (hK.2.2.2.2.2.2.2.2.2.2.1 _ p1.2).1
  have w2 := (hK.2.2.2.2.2.2.2.2.2.2.1 _ p2.2).1
  have w3 := (hK.2.2.2.2.2.2.2.2.2.2.1 _ p3.2).1
  have w4 := (hK.2.2.2.2.2.2.2.2.2.2.1 _ p4.2).1
  have w5 := (hK.2.2.2.2.2.2.2.2.2.2.1 _ p5.2).1
  simp (disch := first | assumption | omega | exact isB_z | exact isB_o | exact iI_in' (by assumption) (by omega) (by omega) | exact cat_int _ | exact cat_ref _ | exact cat_null | decide) only [c_67, ↓x_67_0, ↓x_67_1, ↓x_67_4, ↓x_67_5, ↓x_67_6, ↓x_67_7, ↓x_67_8, up1_same, up1_ne, up1_up1, us_0, us_1, us_2, us_3, us_4, us_5, us_6, us_7, us_8, us_9, us_10, us_11, rw_zero, rw_succ, Option.toList_some, Option.toList_none, List.cons_append, List.nil_append, cat_int, cat_ref, cat_null, iI_add, iI_sub, iI_mul, iI_neg, List.length_cons, List.length_nil, ↓reduceIte, va_rf_some, exR, wiR, wkW, wkR, orR, rdR, hx, iI_cl, Int.reduceToNat, p0.1]
  simp (disch := first | assumption | omega | exact isB_z | exact isB_o | exact iI_in' (by assumption) (by omega) (by omega) | exact cat_int _ | exact cat_ref _ | exact cat_null | decide) only [↓x_67_0, ↓x_67_1, ↓x_67_4, ↓x_67_5, ↓x_67_6, ↓x_67_7, ↓x_67_8, ↓x_67_9, ↓x_67_10, ↓x_67_12, ↓x_67_15, ↓x_67_16, ↓x_67_19, ↓x_67_20, ↓x_67_21, ↓x_67_22, ↓x_67_23, ↓x_67_26, ↓x_67_27, ↓x_67_28, ↓x_67_29, ↓x_67_32, ↓x_67_35, ↓x_67_36, ↓x_67_39, ↓x_67_40, ↓x_67_41, ↓x_67_42, ↓x_67_43, ↓x_67_44, ↓x_67_47, up1_same, up1_ne, up1_up1, us_0, us_1, us_2, us_3, us_4, us_5, us_6, us_7, us_8, us_9, us_10, us_11, rw_zero, rw_succ, Option.toList_some, Option.toList_none, List.cons_append, List.nil_append, cat_int, cat_ref, cat_null, iI_add, iI_sub, iI_mul, iI_neg, List.length_cons, List.length_nil, ↓reduceIte, va_rf_some, exR, wiR, wkW, wkR, orR, rdR, hx, iI_lt, Int.reduceLT, Int.reduceAdd, Int.reduceSub, if_true, if_false, iI_cl, Int.reduceToNat, p1.1, p2.1, p3.1, p4.1, p5.1]
  refine hQ _ (fun i hi => ?_) ?_ (fun a ha => ?_)
  · rw [up1_same]
    match i, hi with
    | 0, _ => rw [p1.1]; rfl
    | 1, _ => rw [p2.1]; rfl
    | 2, _ => rw [p3.1]; rfl
    | 3, _ => rw [p4.1]; rfl
    | 4, _ => rw [p5.1]; rfl
    | n + 5, h => omega
  · rw [up1_same, p0.1]; rfl
  · rw [up1_ne ha]
end
