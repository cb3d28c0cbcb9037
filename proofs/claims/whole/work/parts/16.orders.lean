/-! ORDERS -/
abbrev orR (o : Nat) (n l : Int) : Nat → Value := rw' [.ref (o + 1), .ref (o + 2), .ref (o + 3), .ref (o + 4), .int (iI n), .int (iI l)]
def orK (t : mL) (o : Nat) : Prop := kd t o = 0 ∧ kd t (o + 1) = 8 ∧ ln t (o + 1) = 7 ∧ kd t (o + 2) = 6 ∧ ln t (o + 2) = 6 ∧ kd t (o + 3) = 6 ∧ ln t (o + 3) = 6 ∧ kd t (o + 4) = 6 ∧ ln t (o + 4) = 6 ∧ ∀ j : Nat, j < 7 → kd t (o + 5 + j) = 2
/-- the row of walks -/
def orP (P : Nat → Nat → Option Nat) (o : Nat) : Prop := ∀ j : Nat, j < 7 → P (o + 1) j = some (o + 5 + j)
def cp6 (f g : Nat → Int32) : Nat → Int32 := upd (upd (upd (upd (upd (upd f 0 (g 0)) 1 (g 1)) 2 (g 2)) 3 (g 3)) 4 (g 4)) 5 (g 5)
theorem cp6_at (f g : Nat → Int32) {i : Nat} (h : i < 6) : cp6 f g i = g i := by
  match i, h with
  | 0, _ => rfl
  | 1, _ => rfl
  | 2, _ => rfl
  | 3, _ => rfl
  | 4, _ => rfl
  | 5, _ => rfl
  | n + 6, h => omega
def forI {β : Type} (F : Nat → β → β) : Nat → Nat → β → β
  | _, 0, b => b
  | i, k + 1, b => forI F (i + 1) k (F i b)
def orU (n : Int) (j : Nat) : Int := if n / 2 ^ j % 2 = 1 then n else n + 2 ^ j
theorem or_tab : ∀ j : Nat, j < 6 → ∀ n : Nat, n < 64 → iI n ||| iI (2 ^ j) = iI (orU n j) ∧ 0 ≤ orU n j ∧ orU n j < 64 := by decide +kernel
theorem or_6 {n : Int} {j : Nat} (h0 : 0 ≤ n) (h1 : n < 64) (j1 : j < 6) : iI n ||| iI (2 ^ j) = iI (orU n j) ∧ 0 ≤ orU n j ∧ orU n j < 64 := by
  have := or_tab j j1 n.toNat (by omega)
  rwa [Int.toNat_of_nonneg h0] at this
/-- the search: best order and its longest run -/
def arrF (n : Nat) (ks : Nat → Int) : Nat → List Int → Int → Int × wS → (Nat → Int32) × Int → (Nat → Int32) × Int
  | 0, pre, _, S, B => if B.2 ≤ S.2.2.2.2 then B else ((fun i => iI (pre.getD i 0)), S.2.2.2.2)
  | rem + 1, pre, us, S, B => if B.2 ≤ S.2.2.2.2 then B else forI (fun i B => if us / 2 ^ i % 2 = 0 then arrF n ks rem (pre ++ [(i : Int)]) (orU us i) (tkG S (fD (ks i) S.1)).1 B else B) 0 n B
section
variable {d : Nat} {t : mL} {V : Nat → Nat → Value} {A : Nat → Nat → Int32} {P : Nat → Nat → Option Nat} {μ : mM} {Q : Option Value → mM → Prop}
theorem k_settle {o : Nat} {n l l' : Int} (hK : orK t o) (ho : V o = orR o n l) : Call (d + 1) 12 [.ref o, .int (iI l')] (t, V, A, P) Q = Q none (t, up1 V o (orR o n l'), up1 A (o + 4) (cp6 (A (o + 4)) (A (o + 3))), P) := by
  obtain ⟨k1, k2, k3, k4, k5, k6, k7, k8, k9, k10⟩ := hK
  simp (disch := first | assumption | omega | exact isB_z | exact isB_o | exact iI_in' (by assumption) (by omega) (by omega) | exact cat_int _ | exact cat_ref _ | exact cat_null | decide) only [c_12, ↓x_12_0, ↓x_12_1, ↓x_12_2, ↓x_12_5, ↓x_12_6, ↓x_12_7, ↓x_12_8, ↓x_12_10, ↓x_12_13, ↓x_12_14, ↓x_12_17, ↓x_12_18, ↓x_12_19, ↓x_12_22, ↓x_12_23, ↓x_12_24, ↓x_12_25, ↓x_12_28, ↓x_12_31, up1_same, up1_ne, up1_up1, us_0, us_1, us_2, us_3, us_4, us_5, us_6, us_7, us_8, us_9, us_10, us_11, rw_zero, rw_succ, Option.toList_some, Option.toList_none, List.cons_append, List.nil_append, cat_int, cat_ref, cat_null, iI_add, iI_sub, iI_mul, iI_neg, List.length_cons, List.length_nil, ↓reduceIte, va_rf_some, orR, wkW, wkR, wiR, ho, iI_lt, Int.reduceLT, Int.reduceAdd, if_true, if_false, iI_cl, Int.reduceToNat]
  rfl
theorem k_bestAt {o : Nat} {n l i : Int} (hK : orK t o) (ho : V o = orR o n l) (hn : n ≤ 6) (h0 : 0 ≤ i) (h1 : i < n) : Call (d + 1) 10 [.ref o, .int (iI i)] (t, V, A, P) Q = Q (some (.int (A (o + 4) i.toNat))) (t, V, A, P) := by
  obtain ⟨k1, k2, k3, k4, k5, k6, k7, k8, k9, k10⟩ := hK
  have e1 : ¬ i < 0 := by omega
  have e2 : i < 6 := by omega
  simp (disch := first | assumption | omega | exact isB_z | exact isB_o | exact iI_in' (by assumption) (by omega) (by omega) | exact cat_int _ | exact cat_ref _ | exact cat_null | decide) only [c_10, ↓x_10_0, ↓x_10_1, ↓x_10_4, ↓x_10_5, ↓x_10_6, ↓x_10_9, ↓x_10_12, ↓x_10_13, ↓x_10_15, ↓x_10_18, ↓x_10_19, ↓x_10_22, ↓x_10_23, ↓x_10_24, ↓x_10_27, ↓x_10_29, up1_same, up1_ne, up1_up1, us_0, us_1, us_2, us_3, us_4, us_5, us_6, us_7, us_8, us_9, us_10, us_11, rw_zero, rw_succ, Option.toList_some, Option.toList_none, List.cons_append, List.nil_append, cat_int, cat_ref, cat_null, iI_add, iI_sub, iI_mul, iI_neg, List.length_cons, List.length_nil, ↓reduceIte, va_rf_some, orR, wkW, wkR, wiR, ho, iI_lt, e1, e2, h1, if_true, if_false, iI_cl]
/-- what a search keeps: all but its own rows, and of these what lies ahead -/
def orF (o place : Nat) (V V' : Nat → Nat → Value) (A A' : Nat → Nat → Int32) : Prop := (∀ a, a ≠ o → ¬ (o + 5 + place < a ∧ a < o + 12) → V' a = V a) ∧ (∀ j, j < 7 → place < j → (∃ s W, V (o + 5 + j) = wkW s W) → ∃ s W, V' (o + 5 + j) = wkW s W) ∧ (∀ a, a ≠ o + 3 → a ≠ o + 4 → A' a = A a) ∧ ∀ i, i < place → A' (o + 3) i = A (o + 3) i
theorem orF.rf {o place : Nat} : orF o place V V A A := ⟨fun _ _ _ => rfl, fun _ _ _ h => h, fun _ _ _ => rfl, fun _ _ => rfl⟩
/-- the arrange of rem places still free -/
def arrC (t : mL) (P : Nat → Nat → Option Nat) (o n : Nat) (ks : Nat → Int) (d rem : Nat) : Prop :=
  ∀ (place : Nat) (pre : List Int) (us m : Int) (S : Int × wS) (V : Nat → Nat → Value) (A : Nat → Nat → Int32) (B : (Nat → Int32) × Int) (Q : Option Value → mM → Prop), place + rem = n → pre.length = place → 0 ≤ us → us < 64 → wOK m S.2 → m + 6 * rem ≤ 900 → (S.1 = -1 ∨ S.1 = 1) → tabs t A → V o = orR o n B.2 → V (o + 5 + place) = wkW S.1 S.2 → (∀ j, j < 7 → place < j → ∃ s W, V (o + 5 + j) = wkW s W) → (∀ i : Nat, i < n → A (o + 2) i = iI (ks i)) → (∀ i : Nat, i < place → A (o + 3) i = iI (pre.getD i 0)) → (∀ i : Nat, i < n → A (o + 4) i = B.1 i) → 0 ≤ B.2 → B.2 ≤ 1000 →
  (∀ (V' : Nat → Nat → Value) (A' : Nat → Nat → Int32), V' o = orR o n (arrF n ks rem pre us S B).2 → (∀ i : Nat, i < n → A' (o + 4) i = (arrF n ks rem pre us S B).1 i) → orF o place V V' A A' → Q none (t, V', A', P)) →
  Call (d + rem + 7) 11 [.ref o, .int (iI place), .int (iI us)] (t, V, A, P) Q
theorem forI_b {F : Nat → (Nat → Int32) × Int → (Nat → Int32) × Int} (h : ∀ i B, 0 ≤ B.2 → 0 ≤ (F i B).2 ∧ (F i B).2 ≤ B.2) : ∀ (k i : Nat) (B : (Nat → Int32) × Int), 0 ≤ B.2 → 0 ≤ (forI F i k B).2 ∧ (forI F i k B).2 ≤ B.2 := by
  intro k
  induction k with
  | zero => intro i B h0; exact ⟨h0, Int.le_refl _⟩
  | succ k ih =>
    intro i B h0
    have h1 := h i B h0
    have h2 := ih (i + 1) (F i B) h1.1
    exact ⟨h2.1, Int.le_trans h2.2 h1.2⟩
theorem arrF_b (n : Nat) (ks : Nat → Int) : ∀ (rem : Nat) (pre : List Int) (us m : Int) (S : Int × wS) (B : (Nat → Int32) × Int), wOK m S.2 → 0 ≤ B.2 → 0 ≤ (arrF n ks rem pre us S B).2 ∧ (arrF n ks rem pre us S B).2 ≤ B.2 := by
  intro rem
  induction rem with
  | zero =>
    intro pre us m S B hS h0
    simp only [arrF]
    split
    · exact ⟨h0, Int.le_refl _⟩
    · exact ⟨hS.2.2.2.2.2.2.1, by simp only; omega⟩
  | succ rem ih =>
    intro pre us m S B hS h0
    simp only [arrF]
    split
    · exact ⟨h0, Int.le_refl _⟩
    · refine forI_b (fun i B hB => ?_) n 0 B h0
      split
      · exact ih _ _ _ _ B (tkG_OK _ hS) hB
      · exact ⟨hB, Int.le_refl _⟩
set_option maxHeartbeats 200000 in
theorem arr_0 {o n : Nat} {ks : Nat → Int} (hK : orK t o) (hP : orP P o) (hn : n ≤ 6) : arrC t P o n ks d 0 := by
  intro place pre us m S V A B Q hpl hpre u0 u1 hS hm hs hT ho hw hws hks hord hb b0 b1 hQ
  have hK' := hK
  obtain ⟨k1, k2, k3, k4, k5, k6, k7, k8, k9, k10⟩ := hK
  have hpn : place = n := by omega
  subst hpn
  have kw := k10 place (by omega)
  have pw := hP place (by omega)
  have g0 := hS.2.2.2.2.2.2.1
  have g1 := hS.2.2.2.2.2.2.2
  have p0 : ¬ (place : Int) < 0 := by omega
  have p1 : ¬ (6 : Int) < place := by omega
  have e9 : ¬ (place : Int) < place := by omega
  have tn1 : ((place : Nat) : Int).toNat = place := Int.toNat_natCast place
  simp only [arrF] at hQ
  show Call (d + 0 + 6 + 1) 11 _ _ _
  generalize hL : S.2.2.2.2 = lg at *
  simp (disch := first | assumption | omega | exact isB_z | exact isB_o | exact iI_in' (by assumption) (by omega) (by omega) | exact cat_int _ | exact cat_ref _ | exact cat_null | decide) only [c_11, ↓x_11_0, ↓x_11_1, ↓x_11_4, ↓x_11_5, ↓x_11_7, ↓x_11_10, ↓x_11_11, ↓x_11_12, ↓x_11_15, ↓x_11_16, ↓x_11_17, ↓x_11_18, ↓x_11_19, ↓x_11_22, ↓x_11_23, ↓x_11_26, ↓x_11_27, ↓x_11_30, ↓x_11_33, up1_same, up1_ne, up1_up1, us_0, us_1, us_2, us_3, us_4, us_5, us_6, us_7, us_8, us_9, us_10, us_11, rw_zero, rw_succ, Option.toList_some, Option.toList_none, List.cons_append, List.nil_append, cat_int, cat_ref, cat_null, iI_add, iI_sub, iI_mul, iI_neg, List.length_cons, List.length_nil, ↓reduceIte, va_rf_some, orR, wkW, wkR, wiR, ho, iI_lt, p0, p1, if_false, iI_cl, tn1, pw, hw, hL]
  by_cases c : lg < B.2
  · have c' : ¬ B.2 ≤ lg := by omega
    simp only [c, c', if_true, if_false] at hQ ⊢
    simp (disch := first | assumption | omega | exact isB_z | exact isB_o | exact iI_in' (by assumption) (by omega) (by omega) | exact cat_int _ | exact cat_ref _ | exact cat_null | decide) only [↓x_11_34, ↓x_11_35, ↓x_11_36, ↓x_11_39, ↓x_11_42, ↓x_11_43, ↓x_11_45, ↓x_11_48, ↓x_11_49, ↓x_11_50, ↓x_11_53, ↓x_11_56, up1_same, up1_ne, up1_up1, us_0, us_1, us_2, us_3, us_4, us_5, us_6, us_7, us_8, us_9, us_10, us_11, rw_zero, rw_succ, Option.toList_some, Option.toList_none, List.cons_append, List.nil_append, cat_int, cat_ref, cat_null, iI_add, iI_sub, iI_mul, iI_neg, List.length_cons, List.length_nil, ↓reduceIte, va_rf_some, orR, wkW, wkR, wiR, ho, iI_lt, e9, if_false, hw, hL]
    rw [k_settle hK' ho]
    simp (disch := first | assumption | omega | exact isB_z | exact isB_o | exact iI_in' (by assumption) (by omega) (by omega) | exact cat_int _ | exact cat_ref _ | exact cat_null | decide) only [↓x_11_56, up1_same, up1_ne, up1_up1, us_0, us_1, us_2, us_3, us_4, us_5, us_6, us_7, us_8, us_9, us_10, us_11, rw_zero, rw_succ, Option.toList_some, Option.toList_none, List.cons_append, List.nil_append, cat_int, cat_ref, cat_null, iI_add, iI_sub, iI_mul, iI_neg, List.length_cons, List.length_nil, ↓reduceIte, va_rf_some, orR, wkW, wkR, wiR]
    refine hQ _ _ (up1_same _ _ _) (fun i hi => ?_) ⟨fun a h1 h2 => up1_ne h1, fun j hj hp h => ?_, fun a h1 h2 => up1_ne h2, fun i hi => ?_⟩
    · rw [up1_same, cp6_at _ _ (by omega), hord i hi]
    · rw [up1_ne (by omega)]; exact h
    · rw [up1_ne (by omega)]
  · have c' : B.2 ≤ lg := by omega
    simp only [c, c', if_true, if_false] at hQ ⊢
    exact hQ V A ho hb orF.rf
end
