/-! THE CLASS: its memory and what it stands for -/
abbrev exR (l i u : Int) : Nat → Value := rw' [.ref 4, .ref 8, .ref 9, .ref 10, .ref 11, .ref 12, .ref 13, .ref 17, .ref 29, .int (iI l), .int (iI i), .int (iI u)]
def exK (t : mL) : Prop := kd t 3 = 4 ∧ wiK t 4 ∧ (kd t 8 = 9 ∧ ln t 8 = 6) ∧ (kd t 9 = 9 ∧ ln t 9 = 2) ∧ (kd t 10 = 7 ∧ ln t 10 = 2) ∧ (kd t 11 = 6 ∧ ln t 11 = 120) ∧ (kd t 12 = 6 ∧ ln t 12 = 40) ∧ rdK t 13 ∧ orK t 17 ∧ kd t 29 = 2 ∧ (∀ j : Nat, j < 6 → wiK t (30 + 4 * j)) ∧ ∀ j : Nat, j < 2 → wiK t (54 + 4 * j)
/-- the state: wire, undo list (oldest first), images, text -/
def aS : Type := aW × List aW × (Nat → Option aW) × List Int
abbrev aS.mk (X : aW) (U : List aW) (I : Nat → Option aW) (T : List Int) : aS := (X, U, I, T)
abbrev aS.X (S : aS) : aW := S.1
abbrev aS.U (S : aS) : List aW := S.2.1
abbrev aS.I (S : aS) : Nat → Option aW := S.2.2.1
abbrev aS.T (S : aS) : List Int := S.2.2.2
/-- what each call leaves anyhow -/
def scr (V : Nat → Nat → Value) : Prop := (∃ f u m fi br bl lo, rdV V 13 f u m fi br bl lo) ∧ (∃ n l, V 17 = orR 17 n l) ∧ (∀ j, j < 7 → ∃ s W, V (17 + 5 + j) = wkW s W) ∧ ∃ s W, V 29 = wkW s W
def imH (V : Nat → Nat → Value) (A : Nat → Nat → Int32) (i : Nat) : Option aW → Prop
  | none => A 10 i = iI 0
  | some Y => A 10 i = iI 1 ∧ wiH V A (54 + 4 * i) Y ∧ wf Y
/-- the memory of the class stands for the state -/
def RX (V : Nat → Nat → Value) (A : Nat → Nat → Int32) (P : Nat → Nat → Option Nat) (S : aS) (e : Nat → Nat) : Prop := (∃ it, V 3 = exR S.T.length it S.U.length) ∧ (wiH V A 4 S.X) ∧ (wf S.X) ∧ (S.U.length ≤ 6) ∧ (∀ i, i < 6 → P 8 i = some (30 + 4 * e i) ∧ e i < 6) ∧ (∀ i j, i < 6 → j < 6 → e i = e j → i = j) ∧ (∀ j : Nat, j < 6 → ∃ n s x y, V (30 + 4 * j) = wiR (30 + 4 * j) n s x y) ∧ (∀ i, i < S.U.length → wiH V A (30 + 4 * e i) (S.U.getD i ([], [])) ∧ wf (S.U.getD i ([], []))) ∧ (∀ i, i < 2 → P 9 i = some (54 + 4 * i)) ∧ (∀ j : Nat, j < 2 → ∃ n s x y, V (54 + 4 * j) = wiR (54 + 4 * j) n s x y) ∧ (∀ i, i < 2 → imH V A i (S.I i)) ∧ (S.T.length ≤ 120) ∧ (∀ i : Nat, i < S.T.length → A 11 i = iI (S.T.getD i 0) ∧ 0 ≤ S.T.getD i 0 ∧ S.T.getD i 0 ≤ 255) ∧ (scr V) ∧ (orP P 17)
theorem RX.ob {V : Nat → Nat → Value} {A : Nat → Nat → Int32} {P : Nat → Nat → Option Nat} {S : aS} {e : Nat → Nat} (h : RX V A P S e) : ∃ it, V 3 = exR S.T.length it S.U.length := h.1
theorem RX.wi {V : Nat → Nat → Value} {A : Nat → Nat → Int32} {P : Nat → Nat → Option Nat} {S : aS} {e : Nat → Nat} (h : RX V A P S e) : wiH V A 4 S.X := h.2.1
theorem RX.wo {V : Nat → Nat → Value} {A : Nat → Nat → Int32} {P : Nat → Nat → Option Nat} {S : aS} {e : Nat → Nat} (h : RX V A P S e) : wf S.X := h.2.2.1
theorem RX.ul {V : Nat → Nat → Value} {A : Nat → Nat → Int32} {P : Nat → Nat → Option Nat} {S : aS} {e : Nat → Nat} (h : RX V A P S e) : S.U.length ≤ 6 := h.2.2.2.1
theorem RX.ep {V : Nat → Nat → Value} {A : Nat → Nat → Int32} {P : Nat → Nat → Option Nat} {S : aS} {e : Nat → Nat} (h : RX V A P S e) : ∀ i, i < 6 → P 8 i = some (30 + 4 * e i) ∧ e i < 6 := h.2.2.2.2.1
theorem RX.ei {V : Nat → Nat → Value} {A : Nat → Nat → Int32} {P : Nat → Nat → Option Nat} {S : aS} {e : Nat → Nat} (h : RX V A P S e) : ∀ i j, i < 6 → j < 6 → e i = e j → i = j := h.2.2.2.2.2.1
theorem RX.er {V : Nat → Nat → Value} {A : Nat → Nat → Int32} {P : Nat → Nat → Option Nat} {S : aS} {e : Nat → Nat} (h : RX V A P S e) : ∀ j : Nat, j < 6 → ∃ n s x y, V (30 + 4 * j) = wiR (30 + 4 * j) n s x y := h.2.2.2.2.2.2.1
theorem RX.ew {V : Nat → Nat → Value} {A : Nat → Nat → Int32} {P : Nat → Nat → Option Nat} {S : aS} {e : Nat → Nat} (h : RX V A P S e) : ∀ i, i < S.U.length → wiH V A (30 + 4 * e i) (S.U.getD i ([], [])) ∧ wf (S.U.getD i ([], [])) := h.2.2.2.2.2.2.2.1
theorem RX.ip {V : Nat → Nat → Value} {A : Nat → Nat → Int32} {P : Nat → Nat → Option Nat} {S : aS} {e : Nat → Nat} (h : RX V A P S e) : ∀ i, i < 2 → P 9 i = some (54 + 4 * i) := h.2.2.2.2.2.2.2.2.1
theorem RX.ir {V : Nat → Nat → Value} {A : Nat → Nat → Int32} {P : Nat → Nat → Option Nat} {S : aS} {e : Nat → Nat} (h : RX V A P S e) : ∀ j : Nat, j < 2 → ∃ n s x y, V (54 + 4 * j) = wiR (54 + 4 * j) n s x y := h.2.2.2.2.2.2.2.2.2.1
theorem RX.im {V : Nat → Nat → Value} {A : Nat → Nat → Int32} {P : Nat → Nat → Option Nat} {S : aS} {e : Nat → Nat} (h : RX V A P S e) : ∀ i, i < 2 → imH V A i (S.I i) := h.2.2.2.2.2.2.2.2.2.2.1
theorem RX.tl {V : Nat → Nat → Value} {A : Nat → Nat → Int32} {P : Nat → Nat → Option Nat} {S : aS} {e : Nat → Nat} (h : RX V A P S e) : S.T.length ≤ 120 := h.2.2.2.2.2.2.2.2.2.2.2.1
theorem RX.tx {V : Nat → Nat → Value} {A : Nat → Nat → Int32} {P : Nat → Nat → Option Nat} {S : aS} {e : Nat → Nat} (h : RX V A P S e) : ∀ i : Nat, i < S.T.length → A 11 i = iI (S.T.getD i 0) ∧ 0 ≤ S.T.getD i 0 ∧ S.T.getD i 0 ≤ 255 := h.2.2.2.2.2.2.2.2.2.2.2.2.1
theorem RX.sc {V : Nat → Nat → Value} {A : Nat → Nat → Int32} {P : Nat → Nat → Option Nat} {S : aS} {e : Nat → Nat} (h : RX V A P S e) : scr V := h.2.2.2.2.2.2.2.2.2.2.2.2.2.1
theorem RX.op {V : Nat → Nat → Value} {A : Nat → Nat → Int32} {P : Nat → Nat → Option Nat} {S : aS} {e : Nat → Nat} (h : RX V A P S e) : orP P 17 := h.2.2.2.2.2.2.2.2.2.2.2.2.2.2
def aForm (k f : Int) : Int := if 0 ≤ k ∧ k < 34 ∧ 0 ≤ f ∧ f ≤ 1 then (if f = 0 then fA k else fB k) else -1
def aBit (X : aW) (b : Int) : Int := if 0 ≤ b ∧ b < X.1.length * 6 then btA X.2 b else -1
def aWord (X : aW) (w : Int) : Int := if 0 ≤ w ∧ w < X.1.length then X.1.getD w.toNat 0 else -1
def aRecent (X : aW) (i : Int) : Int := if i < 0 then -1 else rcG (rc X.1).1 (rc X.1).2 i
theorem wiH_eq {V V' : Nat → Nat → Value} {A A' : Nat → Nat → Int32} {w : Nat} {X : aW} (h : wiH V A w X) (h0 : V' w = V w) (h1 : A' (w + 1) = A (w + 1)) (h2 : A' (w + 2) = A (w + 2)) (h3 : A' (w + 3) = A (w + 3)) : wiH V' A' w X := by
  obtain ⟨w1, w2, w3, w4⟩ := h
  exact ⟨by rw [h0]; exact w1, by rw [h1]; exact w2, by rw [h2]; exact w3, by rw [h3]; exact w4⟩
/-- what a mere question may touch -/
def fq (V V' : Nat → Nat → Value) (A A' : Nat → Nat → Int32) : Prop := (∀ a, ¬ (13 ≤ a ∧ a ≤ 29) → V' a = V a) ∧ (∀ a, ¬ (13 ≤ a ∧ a ≤ 29) → A' a = A a) ∧ scr V'
theorem fq.tr {V V' V2 : Nat → Nat → Value} {A A' A2 : Nat → Nat → Int32} (h : fq V V' A A') (k : fq V' V2 A' A2) : fq V V2 A A2 :=
  ⟨fun a ha => (k.1 a ha).trans (h.1 a ha), fun a ha => (k.2.1 a ha).trans (h.2.1 a ha), k.2.2⟩
theorem fq.tabs {t : mL} {V V' : Nat → Nat → Value} {A A' : Nat → Nat → Int32} (h : fq V V' A A') (hT : tabs t A) : tabs t A' := by
  obtain ⟨q1, q2, q3, q4, q5, q6⟩ := hT
  exact ⟨q1, q2, q3, q4, fun j => by rw [h.2.1 0 (by omega)]; exact q5 j, fun j => by rw [h.2.1 1 (by omega)]; exact q6 j⟩
theorem imH_eq {V V' : Nat → Nat → Value} {A A' : Nat → Nat → Int32} {i : Nat} {Y : Option aW} (h : imH V A i Y) (hV : V' (54 + 4 * i) = V (54 + 4 * i)) (h0 : A' 10 i = A 10 i) (h1 : A' (54 + 4 * i + 1) = A (54 + 4 * i + 1)) (h2 : A' (54 + 4 * i + 2) = A (54 + 4 * i + 2)) (h3 : A' (54 + 4 * i + 3) = A (54 + 4 * i + 3)) : imH V' A' i Y := by
  cases Y with
  | none => exact h0.trans h
  | some Y => exact ⟨h0.trans h.1, wiH_eq h.2.1 hV h1 h2 h3, h.2.2⟩
theorem RX.keep {V V' : Nat → Nat → Value} {A A' : Nat → Nat → Int32} {P : Nat → Nat → Option Nat} {S : aS} {e : Nat → Nat} (h : RX V A P S e) (hV : ∀ a, a ≠ 3 → ¬ (13 ≤ a ∧ a ≤ 29) → V' a = V a) (h3 : ∃ it, V' 3 = exR S.T.length it S.U.length) (hA : ∀ a, ¬ (12 ≤ a ∧ a ≤ 29) → A' a = A a) (hs : scr V') : RX V' A' P S e := by
  refine ⟨h3, wiH_eq h.wi (hV _ (by omega) (by omega)) (hA _ (by omega)) (hA _ (by omega)) (hA _ (by omega)), h.wo, h.ul, h.ep, h.ei, fun j hj => ?_, fun i hi => ?_, h.ip, fun j hj => ?_, fun i hi => imH_eq (h.im i hi) (hV _ (by omega) (by omega)) (by rw [hA _ (by omega)]) (hA _ (by omega)) (hA _ (by omega)) (hA _ (by omega)), h.tl, fun i hi => by rw [hA _ (by omega)]; exact h.tx i hi, hs, h.op⟩
  · rw [hV _ (by omega) (by omega)]; exact h.er j hj
  · exact ⟨wiH_eq (h.ew i hi).1 (hV _ (by omega) (by omega)) (hA _ (by omega)) (hA _ (by omega)) (hA _ (by omega)), (h.ew i hi).2⟩
  · rw [hV _ (by omega) (by omega)]; exact h.ir j hj
theorem RX.fq {V V' : Nat → Nat → Value} {A A' : Nat → Nat → Int32} {P : Nat → Nat → Option Nat} {S : aS} {e : Nat → Nat} (h : RX V A P S e) (k : fq V V' A A') : RX V' A' P S e :=
  h.keep (fun a _ ha => k.1 a ha) (by rw [k.1 3 (by omega)]; exact h.ob) (fun a ha => k.2.1 a (by omega)) k.2.2
section
variable {d : Nat} {t : mL} {V : Nat → Nat → Value} {A : Nat → Nat → Int32} {P : Nat → Nat → Option Nat} {μ : mM} {Q : Option Value → mM → Prop} {S : aS} {e : Nat → Nat}
theorem k_canRead {f u : Int} (h1 : -2147483648 ≤ f ∧ f < 2147483648) (h2 : -2147483648 ≤ u ∧ u < 2147483648) : Call (d + 1) 72 [.int (iI f), .int (iI u)] μ Q = Q (some (.int (iI (if 0 ≤ f ∧ f < 6 ∧ 0 ≤ u ∧ u ≤ 1 then 1 else 0)))) μ := by
  simp (disch := first | assumption | omega | exact isB_z | exact isB_o | exact iI_in' (by assumption) (by omega) (by omega) | exact cat_int _ | exact cat_ref _ | exact cat_null | decide) only [c_72, ↓x_72_0, ↓x_72_1, ↓x_72_4, ↓x_72_5, ↓x_72_7, ↓x_72_10, ↓x_72_11, ↓x_72_14, ↓x_72_15, ↓x_72_16, ↓x_72_19, ↓x_72_20, ↓x_72_23, ↓x_72_24, up1_same, up1_ne, up1_up1, us_0, us_1, us_2, us_3, us_4, us_5, us_6, us_7, us_8, us_9, us_10, us_11, rw_zero, rw_succ, Option.toList_some, Option.toList_none, List.cons_append, List.nil_append, cat_int, cat_ref, cat_null, iI_add, iI_sub, iI_mul, iI_neg, List.length_cons, List.length_nil, ↓reduceIte, va_rf_some, iI_lt, iI_le, isB_0, isB_1]
  by_cases a : f < 0
  · simp [a, show ¬ 0 ≤ f by omega]
  · by_cases b : f < 6
    · by_cases c : u < 0
      · simp [a, b, c, show 0 ≤ f by omega, show ¬ 0 ≤ u by omega]
      · by_cases g : 1 < u
        · simp [a, b, c, g, show ¬ u ≤ 1 by omega]
        · simp [a, b, c, g, show 0 ≤ f by omega, show 0 ≤ u by omega, show u ≤ 1 by omega]
    · simp [a, b]
def sO (u : Int) : Int := if u = 1 then 1 else -1
theorem k_sumOf {u : Int} (h1 : -2147483648 ≤ u ∧ u < 2147483648) : Call (d + 1) 73 [.int (iI u)] μ Q = Q (some (.int (iI (sO u)))) μ := by
  simp (disch := first | assumption | omega | exact isB_z | exact isB_o | exact iI_in' (by assumption) (by omega) (by omega) | exact cat_int _ | exact cat_ref _ | exact cat_null | decide) only [c_73, ↓x_73_0, ↓x_73_1, ↓x_73_2, ↓x_73_5, ↓x_73_6, ↓x_73_9, ↓x_73_10, up1_same, up1_ne, up1_up1, us_0, us_1, us_2, us_3, us_4, us_5, us_6, us_7, us_8, us_9, us_10, us_11, rw_zero, rw_succ, Option.toList_some, Option.toList_none, List.cons_append, List.nil_append, cat_int, cat_ref, cat_null, iI_add, iI_sub, iI_mul, iI_neg, List.length_cons, List.length_nil, ↓reduceIte, va_rf_some, iI_eq, sO]
  by_cases a : u = 1 <;> simp [a]
def sG (u : Int) : Int := if u = 1 then 1 else 0
theorem k_signOf {u : Int} (h1 : -2147483648 ≤ u ∧ u < 2147483648) : Call (d + 1) 74 [.int (iI u)] μ Q = Q (some (.int (iI (sG u)))) μ := by
  simp (disch := first | assumption | omega | exact isB_z | exact isB_o | exact iI_in' (by assumption) (by omega) (by omega) | exact cat_int _ | exact cat_ref _ | exact cat_null | decide) only [c_74, ↓x_74_0, ↓x_74_1, ↓x_74_2, ↓x_74_5, ↓x_74_6, ↓x_74_9, ↓x_74_10, up1_same, up1_ne, up1_up1, us_0, us_1, us_2, us_3, us_4, us_5, us_6, us_7, us_8, us_9, us_10, us_11, rw_zero, rw_succ, Option.toList_some, Option.toList_none, List.cons_append, List.nil_append, cat_int, cat_ref, cat_null, iI_add, iI_sub, iI_mul, iI_neg, List.length_cons, List.length_nil, ↓reduceIte, va_rf_some, iI_eq, sG]
  by_cases a : u = 1 <;> simp [a]
theorem k_bit {b : Int} (hK : exK t) (h : RX V A P S e) (h1 : -2147483648 ≤ b ∧ b < 2147483648) : Call (d + 4) 49 [.ref 3, .int (iI b)] (t, V, A, P) Q = Q (some (.int (iI (aBit S.X b)))) (t, V, A, P) := by
  obtain ⟨it, hx⟩ := h.ob
  have hX := h.wo.1
  have k0 := hK.1
  have k4 := hK.2.1.1
  simp (disch := first | assumption | omega | exact isB_z | exact isB_o | exact iI_in' (by assumption) (by omega) (by omega) | exact cat_int _ | exact cat_ref _ | exact cat_null | decide) only [c_49, ↓x_49_0, ↓x_49_1, ↓x_49_4, ↓x_49_5, up1_same, up1_ne, up1_up1, us_0, us_1, us_2, us_3, us_4, us_5, us_6, us_7, us_8, us_9, us_10, us_11, rw_zero, rw_succ, Option.toList_some, Option.toList_none, List.cons_append, List.nil_append, cat_int, cat_ref, cat_null, iI_add, iI_sub, iI_mul, iI_neg, List.length_cons, List.length_nil, ↓reduceIte, va_rf_some, exR, wiR, wkW, wkR, orR, rdR, hx, k_hasBit hK.2.1.1 h.wi.1]
  by_cases c : 0 ≤ b ∧ b < S.X.1.length * 6
  · simp (disch := first | assumption | omega | exact isB_z | exact isB_o | exact iI_in' (by assumption) (by omega) (by omega) | exact cat_int _ | exact cat_ref _ | exact cat_null | decide) only [c, and_self, if_true, ↓x_49_0, ↓x_49_1, ↓x_49_4, ↓x_49_5, ↓x_49_8, ↓x_49_11, ↓x_49_12, ↓x_49_15, ↓x_49_16, ↓x_49_19, ↓x_49_22, ↓x_49_23, up1_same, up1_ne, up1_up1, us_0, us_1, us_2, us_3, us_4, us_5, us_6, us_7, us_8, us_9, us_10, us_11, rw_zero, rw_succ, Option.toList_some, Option.toList_none, List.cons_append, List.nil_append, cat_int, cat_ref, cat_null, iI_add, iI_sub, iI_mul, iI_neg, List.length_cons, List.length_nil, ↓reduceIte, va_rf_some, exR, wiR, wkW, wkR, orR, rdR, hx, iI_eq, iI_n0, k_bitAt hK.2.1 h.wi h.wo c.1 c.2, aBit]
    simp
  · simp (disch := first | assumption | omega | exact isB_z | exact isB_o | exact iI_in' (by assumption) (by omega) (by omega) | exact cat_int _ | exact cat_ref _ | exact cat_null | decide) only [c, if_false, ↓x_49_0, ↓x_49_1, ↓x_49_4, ↓x_49_5, ↓x_49_8, ↓x_49_11, ↓x_49_12, ↓x_49_15, ↓x_49_16, ↓x_49_19, ↓x_49_22, ↓x_49_23, up1_same, up1_ne, up1_up1, us_0, us_1, us_2, us_3, us_4, us_5, us_6, us_7, us_8, us_9, us_10, us_11, rw_zero, rw_succ, Option.toList_some, Option.toList_none, List.cons_append, List.nil_append, cat_int, cat_ref, cat_null, iI_add, iI_sub, iI_mul, iI_neg, List.length_cons, List.length_nil, ↓reduceIte, va_rf_some, exR, wiR, wkW, wkR, orR, rdR, hx, iI_eq, iI_n0, aBit]
theorem k_word {b : Int} (hK : exK t) (h : RX V A P S e) (h1 : -2147483648 ≤ b ∧ b < 2147483648) : Call (d + 1) 50 [.ref 3, .int (iI b)] (t, V, A, P) Q = Q (some (.int (iI (aWord S.X b)))) (t, V, A, P) := by
  obtain ⟨it, hx⟩ := h.ob
  have hX := h.wo.1
  have k0 := hK.1
  obtain ⟨k1, k2, k3, k4, k5, k6, k7⟩ := hK.2.1
  obtain ⟨w1, w2, w3, w4⟩ := h.wi
  by_cases c : 0 ≤ b ∧ b < S.X.1.length
  · have c1 : ¬ b < 0 := by omega
    have c2 : b < 32 := by omega
    have c3 := w2 b.toNat (by omega)
    simp (disch := first | assumption | omega | exact isB_z | exact isB_o | exact iI_in' (by assumption) (by omega) (by omega) | exact cat_int _ | exact cat_ref _ | exact cat_null | decide) only [c_50, ↓x_50_0, ↓x_50_1, ↓x_50_4, ↓x_50_5, ↓x_50_6, ↓x_50_9, ↓x_50_12, ↓x_50_15, ↓x_50_16, ↓x_50_18, ↓x_50_21, ↓x_50_22, ↓x_50_23, ↓x_50_24, ↓x_50_27, ↓x_50_30, ↓x_50_31, ↓x_50_32, up1_same, up1_ne, up1_up1, us_0, us_1, us_2, us_3, us_4, us_5, us_6, us_7, us_8, us_9, us_10, us_11, rw_zero, rw_succ, Option.toList_some, Option.toList_none, List.cons_append, List.nil_append, cat_int, cat_ref, cat_null, iI_add, iI_sub, iI_mul, iI_neg, List.length_cons, List.length_nil, ↓reduceIte, va_rf_some, exR, wiR, wkW, wkR, orR, rdR, hx, w1, iI_lt, c, c1, c2, and_self, if_true, if_false, iI_cl, c3, aWord]
  · by_cases c1 : b < 0
    · simp (disch := first | assumption | omega | exact isB_z | exact isB_o | exact iI_in' (by assumption) (by omega) (by omega) | exact cat_int _ | exact cat_ref _ | exact cat_null | decide) only [c_50, ↓x_50_0, ↓x_50_1, ↓x_50_4, ↓x_50_5, ↓x_50_6, ↓x_50_9, ↓x_50_12, ↓x_50_15, ↓x_50_16, ↓x_50_18, ↓x_50_21, ↓x_50_22, ↓x_50_23, ↓x_50_24, ↓x_50_27, ↓x_50_30, ↓x_50_31, ↓x_50_32, up1_same, up1_ne, up1_up1, us_0, us_1, us_2, us_3, us_4, us_5, us_6, us_7, us_8, us_9, us_10, us_11, rw_zero, rw_succ, Option.toList_some, Option.toList_none, List.cons_append, List.nil_append, cat_int, cat_ref, cat_null, iI_add, iI_sub, iI_mul, iI_neg, List.length_cons, List.length_nil, ↓reduceIte, va_rf_some, exR, wiR, wkW, wkR, orR, rdR, hx, w1, iI_lt, c, c1, if_true, if_false, aWord]
    · have c2 : ¬ b < S.X.1.length := by omega
      simp (disch := first | assumption | omega | exact isB_z | exact isB_o | exact iI_in' (by assumption) (by omega) (by omega) | exact cat_int _ | exact cat_ref _ | exact cat_null | decide) only [c_50, ↓x_50_0, ↓x_50_1, ↓x_50_4, ↓x_50_5, ↓x_50_6, ↓x_50_9, ↓x_50_12, ↓x_50_15, ↓x_50_16, ↓x_50_18, ↓x_50_21, ↓x_50_22, ↓x_50_23, ↓x_50_24, ↓x_50_27, ↓x_50_30, ↓x_50_31, ↓x_50_32, up1_same, up1_ne, up1_up1, us_0, us_1, us_2, us_3, us_4, us_5, us_6, us_7, us_8, us_9, us_10, us_11, rw_zero, rw_succ, Option.toList_some, Option.toList_none, List.cons_append, List.nil_append, cat_int, cat_ref, cat_null, iI_add, iI_sub, iI_mul, iI_neg, List.length_cons, List.length_nil, ↓reduceIte, va_rf_some, exR, wiR, wkW, wkR, orR, rdR, hx, w1, iI_lt, c, c1, c2, if_true, if_false, aWord]
      simp
theorem k_recent {b : Int} (hK : exK t) (h : RX V A P S e) (h1 : -2147483648 ≤ b ∧ b < 2147483648) : Call (d + 2) 51 [.ref 3, .int (iI b)] (t, V, A, P) Q = Q (some (.int (iI (aRecent S.X b)))) (t, V, A, P) := by
  obtain ⟨it, hx⟩ := h.ob
  have k0 := hK.1
  have k4 := hK.2.1.1
  have hr := rc_b h.wo
  by_cases c : b < 0
  · have c' : ¬ 0 ≤ b := by omega
    simp (disch := first | assumption | omega | exact isB_z | exact isB_o | exact iI_in' (by assumption) (by omega) (by omega) | exact cat_int _ | exact cat_ref _ | exact cat_null | decide) only [c_51, ↓x_51_0, ↓x_51_1, ↓x_51_4, ↓x_51_5, ↓x_51_6, ↓x_51_7, ↓x_51_10, ↓x_51_11, ↓x_51_14, up1_same, up1_ne, up1_up1, us_0, us_1, us_2, us_3, us_4, us_5, us_6, us_7, us_8, us_9, us_10, us_11, rw_zero, rw_succ, Option.toList_some, Option.toList_none, List.cons_append, List.nil_append, cat_int, cat_ref, cat_null, iI_add, iI_sub, iI_mul, iI_neg, List.length_cons, List.length_nil, ↓reduceIte, va_rf_some, exR, wiR, wkW, wkR, orR, rdR, hx, iI_lt, iI_le, c, c', if_true, if_false, aRecent]
  · have c' : 0 ≤ b := by omega
    simp (disch := first | assumption | omega | exact isB_z | exact isB_o | exact iI_in' (by assumption) (by omega) (by omega) | exact cat_int _ | exact cat_ref _ | exact cat_null | decide) only [c_51, ↓x_51_0, ↓x_51_1, ↓x_51_4, ↓x_51_5, ↓x_51_6, ↓x_51_7, ↓x_51_10, ↓x_51_11, ↓x_51_14, up1_same, up1_ne, up1_up1, us_0, us_1, us_2, us_3, us_4, us_5, us_6, us_7, us_8, us_9, us_10, us_11, rw_zero, rw_succ, Option.toList_some, Option.toList_none, List.cons_append, List.nil_append, cat_int, cat_ref, cat_null, iI_add, iI_sub, iI_mul, iI_neg, List.length_cons, List.length_nil, ↓reduceIte, va_rf_some, exR, wiR, wkW, wkR, orR, rdR, hx, iI_lt, iI_le, c, c', if_true, if_false, k_markSentLately hK.2.1.1 h.wi.1, aRecent]
end
