/-! ORDERS -/
abbrev orR (o : Nat) (n l : Int) : Nat → Value := rw' [.ref (o + 1), .ref (o + 2), .ref (o + 3), .ref (o + 4), .int (iI n), .int (iI l)]
def orK (t : mL) (o : Nat) : Prop := kd t o = 0 ∧ kd t (o + 1) = 8 ∧ ln t (o + 1) = 7 ∧ kd t (o + 2) = 6 ∧ ln t (o + 2) = 6 ∧ kd t (o + 3) = 6 ∧ ln t (o + 3) = 6 ∧ kd t (o + 4) = 6 ∧ ln t (o + 4) = 6 ∧ ∀ j : Nat, j < 7 → kd t (o + 5 + j) = 2
/-- the row of walks -/
def orP (P : Nat → Nat → Option Nat) (o : Nat) : Prop := ∀ j : Nat, j < 7 → P (o + 1) j = some (o + 5 + j)
def cp6 (f g : Nat → Int32) : Nat → Int32 := upd (upd (upd (upd (upd (upd f 0 (g 0)) 1 (g 1)) 2 (g 2)) 3 (g 3)) 4 (g 4)) 5 (g 5)
theorem cp6_at (f g : Nat → Int32) {i : Nat} (h : i < 6) : cp6 f g i = g i := by
  match i, h with
  | 0, _ => rfl
  | 1, _ => rfl
  | 2, _ => rfl
  | 3, _ => rfl
  | 4, _ => rfl
  | 5, _ => rfl
  | n + 6, h => omega
def forI {β : Type} (F : Nat → β → β) : Nat → Nat → β → β
  | _, 0, b => b
  | i, k + 1, b => forI F (i + 1) k (F i b)
def orU (n : Int) (j : Nat) : Int := if n / 2 ^ j % 2 = 1 then n else n + 2 ^ j
theorem or_tab : ∀ j : Nat, j < 6 → ∀ n : Nat, n < 64 → iI n ||| iI (2 ^ j) = iI (orU n j) ∧ 0 ≤ orU n j ∧ orU n j < 64 := by decide +kernel
theorem or_6 {n : Int} {j : Nat} (h0 : 0 ≤ n) (h1 : n < 64) (j1 : j < 6) : iI n ||| iI (2 ^ j) = iI (orU n j) ∧ 0 ≤ orU n j ∧ orU n j < 64 := by
  have := or_tab j j1 n.toNat (by omega)
  rwa [Int.toNat_of_nonneg h0] at this
/-- the search: best order and its longest run -/
def arrF (n : Nat) (ks : Nat → Int) : Nat → List Int → Int → Int × wS → (Nat → Int32) × Int → (Nat → Int32) × Int
  | 0, pre, _, S, B => if B.2 ≤ S.2.2.2.2 then B else ((fun i => iI (pre.getD i 0)), S.2.2.2.2)
  | rem + 1, pre, us, S, B => if B.2 ≤ S.2.2.2.2 then B else forI (fun i B => if us / 2 ^ i % 2 = 0 then arrF n ks rem (pre ++ [(i : Int)]) (orU us i) (tkG S (fD (ks i) S.1)).1 B else B) 0 n B
section
variable {d : Nat} {t : mL} {V : Nat → Nat → Value} {A : Nat → Nat → Int32} {P : Nat → Nat → Option Nat} {μ : mM} {Q : Option Value → mM → Prop}
theorem k_settle {o : Nat} {n l l' : Int} (hK : orK t o) (ho : V o = orR o n l) : Call (d + 1) 9 [.ref o, .int (iI l')] (t, V, A, P) Q = Q none (t, up1 V o (orR o n l'), up1 A (o + 4) (cp6 (A (o + 4)) (A (o + 3))), P) := by
  obtain ⟨k1, k2, k3, k4, k5, k6, k7, k8, k9, k10⟩ := hK
  simp (disch := first | assumption | omega | exact isB_z | exact isB_o | exact iI_in' (by assumption) (by omega) (by omega) | exact cat_int _ | exact cat_ref _ | exact cat_null | decide) only [c_9, ↓x_9_0, ↓x_9_1, ↓x_9_2, ↓x_9_5, ↓x_9_6, ↓x_9_7, ↓x_9_8, ↓x_9_10, ↓x_9_13, ↓x_9_14, ↓x_9_17, ↓x_9_18, ↓x_9_19, ↓x_9_22, ↓x_9_23, ↓x_9_24, ↓x_9_25, ↓x_9_28, ↓x_9_31, up1_same, up1_ne, up1_up1, us_0, us_1, us_2, us_3, us_4, us_5, us_6, us_7, us_8, us_9, us_10, us_11, rw_zero, rw_succ, Option.toList_some, Option.toList_none, List.cons_append, List.nil_append, cat_int, cat_ref, cat_null, iI_add, iI_sub, iI_mul, iI_neg, List.length_cons, List.length_nil, ↓reduceIte, va_rf_some, orR, wkW, wkR, wiR, ho, iI_lt, Int.reduceLT, Int.reduceAdd, if_true, if_false, iI_cl, Int.reduceToNat]
  rfl
theorem k_bestAt {o : Nat} {n l i : Int} (hK : orK t o) (ho : V o = orR o n l) (hn : n ≤ 6) (h0 : 0 ≤ i) (h1 : i < n) : Call (d + 1) 7 [.ref o, .int (iI i)] (t, V, A, P) Q = Q (some (.int (A (o + 4) i.toNat))) (t, V, A, P) := by
  obtain ⟨k1, k2, k3, k4, k5, k6, k7, k8, k9, k10⟩ := hK
  have e1 : ¬ i < 0 := by omega
  have e2 : i < 6 := by omega
  simp (disch := first | assumption | omega | exact isB_z | exact isB_o | exact iI_in' (by assumption) (by omega) (by omega) | exact cat_int _ | exact cat_ref _ | exact cat_null | decide) only [c_7, ↓x_7_0, ↓x_7_1, ↓x_7_4, ↓x_7_5, ↓x_7_6, ↓x_7_9, ↓x_7_12, ↓x_7_13, ↓x_7_15, ↓x_7_18, ↓x_7_19, ↓x_7_22, ↓x_7_23, ↓x_7_24, ↓x_7_27, ↓x_7_29, up1_same, up1_ne, up1_up1, us_0, us_1, us_2, us_3, us_4, us_5, us_6, us_7, us_8, us_9, us_10, us_11, rw_zero, rw_succ, Option.toList_some, Option.toList_none, List.cons_append, List.nil_append, cat_int, cat_ref, cat_null, iI_add, iI_sub, iI_mul, iI_neg, List.length_cons, List.length_nil, ↓reduceIte, va_rf_some, orR, wkW, wkR, wiR, ho, iI_lt, e1, e2, h1, if_true, if_false, iI_cl]
/-- what a search keeps: all but its own rows, and of these what lies ahead -/
def orF (o place : Nat) (V V' : Nat → Nat → Value) (A A' : Nat → Nat → Int32) : Prop := (∀ a, a ≠ o → ¬ (o + 5 + place < a ∧ a < o + 12) → V' a = V a) ∧ (∀ j, j < 7 → place < j → (∃ s W, V (o + 5 + j) = wkW s W) → ∃ s W, V' (o + 5 + j) = wkW s W) ∧ (∀ a, a ≠ o + 3 → a ≠ o + 4 → A' a = A a) ∧ ∀ i, i < place → A' (o + 3) i = A (o + 3) i
theorem orF.rf {o place : Nat} : orF o place V V A A := ⟨fun _ _ _ => rfl, fun _ _ _ h => h, fun _ _ _ => rfl, fun _ _ => rfl⟩
theorem tabs_ne {o : Nat} : (0 : Nat) ≠ o + 3 ∧ (1 : Nat) ≠ o + 3 := ⟨by omega, by omega⟩
theorem tabs_ne4 {o : Nat} : (0 : Nat) ≠ o + 4 ∧ (1 : Nat) ≠ o + 4 := ⟨by omega, by omega⟩
/-- the arrange of rem places still free -/
def arrC (t : mL) (P : Nat → Nat → Option Nat) (o n : Nat) (ks : Nat → Int) (d rem : Nat) : Prop :=
  ∀ (place : Nat) (pre : List Int) (us m : Int) (S : Int × wS) (V : Nat → Nat → Value) (A : Nat → Nat → Int32) (B : (Nat → Int32) × Int) (Q : Option Value → mM → Prop), place + rem = n → pre.length = place → 0 ≤ us → us < 64 → wOK m S.2 → m + 6 * rem ≤ 900 → (S.1 = -1 ∨ S.1 = 1) → tabs t A → V o = orR o n B.2 → V (o + 5 + place) = wkW S.1 S.2 → (∀ j, j < 7 → place < j → ∃ s W, V (o + 5 + j) = wkW s W) → (∀ i : Nat, i < n → A (o + 2) i = iI (ks i)) → (∀ i : Nat, i < place → A (o + 3) i = iI (pre.getD i 0)) → (∀ i : Nat, i < n → A (o + 4) i = B.1 i) → 0 ≤ B.2 → B.2 ≤ 1000 →
  (∀ (V' : Nat → Nat → Value) (A' : Nat → Nat → Int32), V' o = orR o n (arrF n ks rem pre us S B).2 → (∀ i : Nat, i < n → A' (o + 4) i = (arrF n ks rem pre us S B).1 i) → orF o place V V' A A' → Q none (t, V', A', P)) →
  Call (d + rem + 7) 8 [.ref o, .int (iI place), .int (iI us)] (t, V, A, P) Q
theorem forI_b {F : Nat → (Nat → Int32) × Int → (Nat → Int32) × Int} (h : ∀ i B, 0 ≤ B.2 → 0 ≤ (F i B).2 ∧ (F i B).2 ≤ B.2) : ∀ (k i : Nat) (B : (Nat → Int32) × Int), 0 ≤ B.2 → 0 ≤ (forI F i k B).2 ∧ (forI F i k B).2 ≤ B.2 := by
  intro k
  induction k with
  | zero => intro i B h0; exact ⟨h0, Int.le_refl _⟩
  | succ k ih =>
    intro i B h0
    have h1 := h i B h0
    have h2 := ih (i + 1) (F i B) h1.1
    exact ⟨h2.1, Int.le_trans h2.2 h1.2⟩
theorem arrF_b (n : Nat) (ks : Nat → Int) : ∀ (rem : Nat) (pre : List Int) (us m : Int) (S : Int × wS) (B : (Nat → Int32) × Int), wOK m S.2 → 0 ≤ B.2 → 0 ≤ (arrF n ks rem pre us S B).2 ∧ (arrF n ks rem pre us S B).2 ≤ B.2 := by
  intro rem
  induction rem with
  | zero =>
    intro pre us m S B hS h0
    simp only [arrF]
    split
    · exact ⟨h0, Int.le_refl _⟩
    · exact ⟨hS.2.2.2.2.2.2.1, by simp only; omega⟩
  | succ rem ih =>
    intro pre us m S B hS h0
    simp only [arrF]
    split
    · exact ⟨h0, Int.le_refl _⟩
    · refine forI_b (fun i B hB => ?_) n 0 B h0
      split
      · exact ih _ _ _ _ B (tkG_OK _ hS) hB
      · exact ⟨hB, Int.le_refl _⟩
set_option maxHeartbeats 200000 in
theorem arr_0 {o n : Nat} {ks : Nat → Int} (hK : orK t o) (hP : orP P o) (hn : n ≤ 6) : arrC t P o n ks d 0 := by
  intro place pre us m S V A B Q hpl hpre u0 u1 hS hm hs hT ho hw hws hks hord hb b0 b1 hQ
  have hK' := hK
  obtain ⟨k1, k2, k3, k4, k5, k6, k7, k8, k9, k10⟩ := hK
  have hpn : place = n := by omega
  subst hpn
  have kw := k10 place (by omega)
  have pw := hP place (by omega)
  have g0 := hS.2.2.2.2.2.2.1
  have g1 := hS.2.2.2.2.2.2.2
  have p0 : ¬ (place : Int) < 0 := by omega
  have p1 : ¬ (6 : Int) < place := by omega
  have e9 : ¬ (place : Int) < place := by omega
  have tn1 : ((place : Nat) : Int).toNat = place := Int.toNat_natCast place
  simp only [arrF] at hQ
  show Call (d + 0 + 6 + 1) 8 _ _ _
  generalize hL : S.2.2.2.2 = lg at *
  simp (disch := first | assumption | omega | exact isB_z | exact isB_o | exact iI_in' (by assumption) (by omega) (by omega) | exact cat_int _ | exact cat_ref _ | exact cat_null | decide) only [c_8, ↓x_8_0, ↓x_8_1, ↓x_8_4, ↓x_8_5, ↓x_8_7, ↓x_8_10, ↓x_8_11, ↓x_8_12, ↓x_8_15, ↓x_8_16, ↓x_8_17, ↓x_8_18, ↓x_8_19, ↓x_8_22, ↓x_8_23, ↓x_8_26, ↓x_8_27, ↓x_8_30, ↓x_8_33, up1_same, up1_ne, up1_up1, us_0, us_1, us_2, us_3, us_4, us_5, us_6, us_7, us_8, us_9, us_10, us_11, rw_zero, rw_succ, Option.toList_some, Option.toList_none, List.cons_append, List.nil_append, cat_int, cat_ref, cat_null, iI_add, iI_sub, iI_mul, iI_neg, List.length_cons, List.length_nil, ↓reduceIte, va_rf_some, orR, wkW, wkR, wiR, ho, iI_lt, p0, p1, if_false, iI_cl, tn1, pw, hw, hL]
  by_cases c : lg < B.2
  · have c' : ¬ B.2 ≤ lg := by omega
    simp only [c, c', if_true, if_false] at hQ ⊢
    simp (disch := first | assumption | omega | exact isB_z | exact isB_o | exact iI_in' (by assumption) (by omega) (by omega) | exact cat_int _ | exact cat_ref _ | exact cat_null | decide) only [↓x_8_34, ↓x_8_35, ↓x_8_36, ↓x_8_39, ↓x_8_42, ↓x_8_43, ↓x_8_45, ↓x_8_48, ↓x_8_49, ↓x_8_50, ↓x_8_53, ↓x_8_56, up1_same, up1_ne, up1_up1, us_0, us_1, us_2, us_3, us_4, us_5, us_6, us_7, us_8, us_9, us_10, us_11, rw_zero, rw_succ, Option.toList_some, Option.toList_none, List.cons_append, List.nil_append, cat_int, cat_ref, cat_null, iI_add, iI_sub, iI_mul, iI_neg, List.length_cons, List.length_nil, ↓reduceIte, va_rf_some, orR, wkW, wkR, wiR, ho, iI_lt, e9, if_false, hw, hL]
    rw [k_settle hK' ho]
    simp (disch := first | assumption | omega | exact isB_z | exact isB_o | exact iI_in' (by assumption) (by omega) (by omega) | exact cat_int _ | exact cat_ref _ | exact cat_null | decide) only [↓x_8_56, up1_same, up1_ne, up1_up1, us_0, us_1, us_2, us_3, us_4, us_5, us_6, us_7, us_8, us_9, us_10, us_11, rw_zero, rw_succ, Option.toList_some, Option.toList_none, List.cons_append, List.nil_append, cat_int, cat_ref, cat_null, iI_add, iI_sub, iI_mul, iI_neg, List.length_cons, List.length_nil, ↓reduceIte, va_rf_some, orR, wkW, wkR, wiR]
    refine hQ _ _ (up1_same _ _ _) (fun i hi => ?_) ⟨fun a h1 h2 => up1_ne h1, fun j hj hp h => ?_, fun a h1 h2 => up1_ne h2, fun i hi => ?_⟩
    · rw [up1_same, cp6_at _ _ (by omega), hord i hi]
    · rw [up1_ne (by omega)]; exact h
    · rw [up1_ne (by omega)]
  · have c' : B.2 ≤ lg := by omega
    simp only [c, c', if_true, if_false] at hQ ⊢
    exact hQ V A ho hb orF.rf
set_option maxHeartbeats 400000 in
theorem arr_loop {o n rem place : Nat} {ks : Nat → Int} {pre : List Int} {us m : Int} {S : Int × wS} {V0 : Nat → Nat → Value} {A0 : Nat → Nat → Int32} {E : (Nat → Int32) × Int} (hK : orK t o) (hP : orP P o) (hn : n ≤ 6) (hIH : arrC t P o n ks d rem) (hpl : place + (rem + 1) = n) (hpre : pre.length = place) (u0 : 0 ≤ us) (u1 : us < 64) (hS : wOK m S.2) (hm : m + 6 * ((rem + 1 : Nat) : Int) ≤ 900) (hs : S.1 = -1 ∨ S.1 = 1) (hk : ∀ i : Nat, i < n → 0 ≤ ks i ∧ ks i < 34)
    (hQ : ∀ (V' : Nat → Nat → Value) (A' : Nat → Nat → Int32), V' o = orR o n E.2 → (∀ i : Nat, i < n → A' (o + 4) i = E.1 i) → orF o place V0 V' A0 A' → Q none (t, V', A', P)) :
    ∀ (k i : Nat) (V : Nat → Nat → Value) (A : Nat → Nat → Int32) (B : (Nat → Int32) × Int), i + k = n → tabs t A → V o = orR o n B.2 → V (o + 5 + place) = wkW S.1 S.2 → (∀ j, j < 7 → place < j → ∃ s W, V (o + 5 + j) = wkW s W) → (∀ i : Nat, i < n → A (o + 2) i = iI (ks i)) → (∀ i : Nat, i < place → A (o + 3) i = iI (pre.getD i 0)) → (∀ i : Nat, i < n → A (o + 4) i = B.1 i) → 0 ≤ B.2 → B.2 ≤ 1000 → orF o place V0 V A0 A → forI (fun i B => if us / 2 ^ i % 2 = 0 then arrF n ks rem (pre ++ [(i : Int)]) (orU us i) (tkG S (fD (ks i) S.1)).1 B else B) i k B = E → Ev (d + rem + 7) 8 70 [.ref o, .int (iI place), .int (iI us), .ref (o + 5 + place), .ref (o + 5 + (place + 1)), .int (iI i)] [] (t, V, A, P) Q := by
  have hK' := hK
  obtain ⟨k1, k2, k3, k4, k5, k6, k7, k8, k9, k10⟩ := hK
  have kh := k10 place (by omega)
  have kn := k10 (place + 1) (by omega)
  have em : m ≤ 99000 := by omega
  have tnp : ((place : Nat) : Int).toNat = place := Int.toNat_natCast place
  have ip : (place : Int) < (6 : Nat) ∧ (place : Int) < 2147483648 := by omega
  have ip0 : (0 : Int) ≤ place := by omega
  have n1 : o + 5 + place ≠ o + 5 + (place + 1) := by omega
  have n2 : o ≠ o + 5 + (place + 1) := by omega
  have n3 : o + 2 ≠ o + 3 := by omega
  have n4 : o + 4 ≠ o + 3 := by omega
  have n5 : (0 : Nat) ≠ o + 3 ∧ (1 : Nat) ≠ o + 3 := tabs_ne
  have cs : ((place : Nat) : Int) + 1 = ((place + 1 : Nat) : Int) := by omega
  intro k
  induction k with
  | zero =>
    intro i V A B hik hT ho hw hws hks hord hb b0 b1 hF hE
    rw [x_8_70]
    have e1 : ¬ (i : Int) < n := by omega
    simp (disch := first | assumption | omega | exact isB_z | exact isB_o | exact iI_in' (by assumption) (by omega) (by omega) | exact cat_int _ | exact cat_ref _ | exact cat_null | decide) only [↓x_8_72, ↓x_8_75, ↓x_8_77, ↓x_8_78, ↓x_8_81, ↓x_8_84, ↓x_8_86, ↓x_8_88, ↓x_8_153, up1_same, up1_ne, up1_up1, us_0, us_1, us_2, us_3, us_4, us_5, us_6, us_7, us_8, us_9, us_10, us_11, rw_zero, rw_succ, Option.toList_some, Option.toList_none, List.cons_append, List.nil_append, cat_int, cat_ref, cat_null, iI_add, iI_sub, iI_mul, iI_neg, List.length_cons, List.length_nil, ↓reduceIte, va_rf_some, orR, wkW, wkR, wiR, ho, iI_lt, e1, if_false]
    have hE' : B = E := hE
    subst hE'
    exact hQ V A ho hb hF
  | succ k ih =>
    intro i V A B hik hT ho hw hws hks hord hb b0 b1 hF hE
    rw [x_8_70]
    have e1 : (i : Int) < n := by omega
    have e2 : (i : Int) < 6 := by omega
    have tni : ((i : Nat) : Int).toNat = i := Int.toNat_natCast i
    have hi6 : i < 6 := by omega
    have esh := shl_6 (j := (i : Int)) (by omega) e2
    rw [tni] at esh
    have ean := and_6 u0 u1 hi6
    have eor := or_6 u0 u1 hi6
    have ci : ((i : Nat) : Int) + 1 = ((i + 1 : Nat) : Int) := by omega
    have kii := hks i (by omega)
    have hki := hk i (by omega)
    have hE2 : forI (fun i B => if us / 2 ^ i % 2 = 0 then arrF n ks rem (pre ++ [(i : Int)]) (orU us i) (tkG S (fD (ks i) S.1)).1 B else B) (i + 1) k (if us / 2 ^ i % 2 = 0 then arrF n ks rem (pre ++ [(i : Int)]) (orU us i) (tkG S (fD (ks i) S.1)).1 B else B) = E := hE
    simp (disch := first | assumption | omega | exact isB_z | exact isB_o | exact iI_in' (by assumption) (by omega) (by omega) | exact cat_int _ | exact cat_ref _ | exact cat_null | decide) only [↓x_8_72, ↓x_8_75, ↓x_8_77, ↓x_8_78, ↓x_8_81, ↓x_8_84, ↓x_8_86, ↓x_8_88, ↓x_8_91, ↓x_8_92, ↓x_8_93, ↓x_8_95, ↓x_8_96, ↓x_8_97, up1_same, up1_ne, up1_up1, us_0, us_1, us_2, us_3, us_4, us_5, us_6, us_7, us_8, us_9, us_10, us_11, rw_zero, rw_succ, Option.toList_some, Option.toList_none, List.cons_append, List.nil_append, cat_int, cat_ref, cat_null, iI_add, iI_sub, iI_mul, iI_neg, List.length_cons, List.length_nil, ↓reduceIte, va_rf_some, orR, wkW, wkR, wiR, ho, iI_lt, e1, e2, if_true, esh, ean]
    by_cases c : us / 2 ^ i % 2 = 0
    · simp only [c, if_true, Int.zero_mul] at hE2 ⊢
      obtain ⟨s1, W1, hnx⟩ := hws (place + 1) (by omega) (by omega)
      obtain ⟨y, hy⟩ : ∃ y, y = fD (ks i) S.1 := ⟨_, rfl⟩
      have hy0 : 0 ≤ y ∧ y < 64 := by rw [hy]; exact fD_b S.1 hki.1 hki.2
      obtain ⟨T, hTe⟩ : ∃ T, T = (tkG S y).1 := ⟨_, rfl⟩
      have hT1 : wOK (m + 6) T.2 := by rw [hTe]; exact tkG_OK _ hS
      have hT2 : T.1 = -1 ∨ T.1 = 1 := by rw [hTe]; exact tkG_s _ hs
      have hT' : tabs t (up1 A (o + 3) (upd (A (o + 3)) place (iI i))) := by
        obtain ⟨q1, q2, q3, q4, q5, q6⟩ := hT
        exact ⟨q1, q2, q3, q4, fun j => by rw [up1_ne n5.1]; exact q5 j, fun j => by rw [up1_ne n5.2]; exact q6 j⟩
      simp (disch := first | assumption | omega | exact isB_z | exact isB_o | exact iI_in' (by assumption) (by omega) (by omega) | exact cat_int _ | exact cat_ref _ | exact cat_null | decide) only [↓x_8_100, ↓x_8_101, ↓x_8_104, ↓x_8_105, ↓x_8_107, ↓x_8_108, up1_same, up1_ne, up1_up1, us_0, us_1, us_2, us_3, us_4, us_5, us_6, us_7, us_8, us_9, us_10, us_11, rw_zero, rw_succ, Option.toList_some, Option.toList_none, List.cons_append, List.nil_append, cat_int, cat_ref, cat_null, iI_add, iI_sub, iI_mul, iI_neg, List.length_cons, List.length_nil, ↓reduceIte, va_rf_some, orR, wkW, wkR, wiR, ho, iI_cl, tnp]
      simp (disch := first | assumption | omega | exact isB_z | exact isB_o | exact iI_in' (by assumption) (by omega) (by omega) | exact cat_int _ | exact cat_ref _ | exact cat_null | decide) only [↓x_8_110, ↓x_8_111, up1_same, up1_ne, up1_up1, us_0, us_1, us_2, us_3, us_4, us_5, us_6, us_7, us_8, us_9, us_10, us_11, rw_zero, rw_succ, Option.toList_some, Option.toList_none, List.cons_append, List.nil_append, cat_int, cat_ref, cat_null, iI_add, iI_sub, iI_mul, iI_neg, List.length_cons, List.length_nil, ↓reduceIte, va_rf_some, orR, wkW, wkR, wiR]
      rw [k_become kn kh n1 hnx hw]
      simp (disch := first | assumption | omega | exact isB_z | exact isB_o | exact iI_in' (by assumption) (by omega) (by omega) | exact cat_int _ | exact cat_ref _ | exact cat_null | decide) only [↓x_8_114, ↓x_8_116, ↓x_8_117, ↓x_8_120, ↓x_8_122, ↓x_8_123, ↓x_8_124, ↓x_8_127, up1_same, up1_ne, up1_up1, us_0, us_1, us_2, us_3, us_4, us_5, us_6, us_7, us_8, us_9, us_10, us_11, rw_zero, rw_succ, Option.toList_some, Option.toList_none, List.cons_append, List.nil_append, cat_int, cat_ref, cat_null, iI_add, iI_sub, iI_mul, iI_neg, List.length_cons, List.length_nil, ↓reduceIte, va_rf_some, orR, wkW, wkR, wiR, ho, hw, iI_cl, tni, kii]
      rw [k_formDue hT' hki.1 hki.2 hs, ← hy]
      simp (disch := first | assumption | omega | exact isB_z | exact isB_o | exact iI_in' (by assumption) (by omega) (by omega) | exact cat_int _ | exact cat_ref _ | exact cat_null | decide) only [↓x_8_130, up1_same, up1_ne, up1_up1, us_0, us_1, us_2, us_3, us_4, us_5, us_6, us_7, us_8, us_9, us_10, us_11, rw_zero, rw_succ, Option.toList_some, Option.toList_none, List.cons_append, List.nil_append, cat_int, cat_ref, cat_null, iI_add, iI_sub, iI_mul, iI_neg, List.length_cons, List.length_nil, ↓reduceIte, va_rf_some, orR, wkW, wkR, wiR]
      rw [k_takeG (d := d + rem + 1) (S := S) hT' kn (up1_same _ _ _) hS em hs hy0.1 hy0.2, ← hTe]
      simp (disch := first | assumption | omega | exact isB_z | exact isB_o | exact iI_in' (by assumption) (by omega) (by omega) | exact cat_int _ | exact cat_ref _ | exact cat_null | decide) only [↓x_8_133, ↓x_8_134, ↓x_8_135, ↓x_8_136, ↓x_8_137, ↓x_8_138, ↓x_8_139, ↓x_8_140, ↓x_8_142, ↓x_8_143, ↓x_8_144, up1_same, up1_ne, up1_up1, us_0, us_1, us_2, us_3, us_4, us_5, us_6, us_7, us_8, us_9, us_10, us_11, rw_zero, rw_succ, Option.toList_some, Option.toList_none, List.cons_append, List.nil_append, cat_int, cat_ref, cat_null, iI_add, iI_sub, iI_mul, iI_neg, List.length_cons, List.length_nil, ↓reduceIte, va_rf_some, orR, wkW, wkR, wiR, esh, eor.1, cs]
      rw [← hy, ← hTe] at hE2
      clear hy hTe hy0
      obtain ⟨B', hB'⟩ : ∃ B', B' = arrF n ks rem (pre ++ [(i : Int)]) (orU us i) T B := ⟨_, rfl⟩
      have hBb : 0 ≤ B'.2 ∧ B'.2 ≤ B.2 := by rw [hB']; exact arrF_b n ks rem _ _ _ T B hT1 b0
      refine hIH (place + 1) (pre ++ [(i : Int)]) (orU us i) (m + 6) T _ _ B _ (by omega) (by simp [hpre]) eor.2.1 eor.2.2 hT1 (by omega) hT2 hT' (by rw [up1_ne n2]; exact ho) (up1_same _ _ _) (fun j hj hp => ?_) (fun q hq => by rw [up1_ne n3]; exact hks q hq) (fun q hq => ?_) (fun q hq => by rw [up1_ne n4]; exact hb q hq) b0 b1 (fun V' A' r1 r2 r3 => ?_)
      · rw [up1_ne (by omega)]; exact hws j hj (by omega)
      · rw [up1_same]
        by_cases hq2 : q = place
        · subst hq2
          rw [upd_same]
          have := getD_app_eq pre (i : Int)
          rw [hpre] at this
          rw [this]
        · rw [upd_ne hq2, getD_app_lt (by omega)]
          exact hord q (by omega)
      · rw [← hB'] at r1 r2 hE2
        clear hB'
        obtain ⟨f1, f2, f3, f4⟩ := r3
        obtain ⟨g1, g2, g3, g4⟩ := hF
        simp (disch := first | assumption | omega | exact isB_z | exact isB_o | exact iI_in' (by assumption) (by omega) (by omega) | exact cat_int _ | exact cat_ref _ | exact cat_null | decide) only [↓x_8_147, ↓x_8_150, up1_same, up1_ne, up1_up1, us_0, us_1, us_2, us_3, us_4, us_5, us_6, us_7, us_8, us_9, us_10, us_11, rw_zero, rw_succ, Option.toList_some, Option.toList_none, List.cons_append, List.nil_append, cat_int, cat_ref, cat_null, iI_add, iI_sub, iI_mul, iI_neg, List.length_cons, List.length_nil, ↓reduceIte, va_rf_some, orR, wkW, wkR, wiR, ci]
        have hT2' : tabs t A' := by
          obtain ⟨q1, q2, q3, q4, q5, q6⟩ := hT'
          exact ⟨q1, q2, q3, q4, fun j => by rw [f3 0 n5.1 tabs_ne4.1]; exact q5 j, fun j => by rw [f3 1 n5.2 tabs_ne4.2]; exact q6 j⟩
        refine ih (i + 1) V' A' B' (by omega) hT2' r1 ?_ (fun j hj hp => ?_) (fun q hq => ?_) (fun q hq => ?_) r2 hBb.1 (by omega) ⟨fun a h1 h2 => ?_, fun j hj hp h => ?_, fun a h1 h2 => ?_, fun q hq => ?_⟩ hE2
        · rw [f1 _ (by omega) (by omega), up1_ne n1]; exact hw
        · by_cases hj2 : j = place + 1
          · subst hj2
            exact ⟨_, _, by rw [f1 _ (by omega) (by omega), up1_same]⟩
          · exact f2 j hj (by omega) (by rw [up1_ne (by omega)]; exact hws j hj hp)
        · rw [f3 _ (by omega) (by omega), up1_ne n3]; exact hks q hq
        · rw [f4 q (by omega), up1_same, upd_ne (by omega)]; exact hord q hq
        · rw [f1 a h1 (by omega), up1_ne (by omega)]; exact g1 a h1 h2
        · by_cases hj2 : j = place + 1
          · subst hj2
            exact ⟨_, _, by rw [f1 _ (by omega) (by omega), up1_same]⟩
          · exact f2 j hj (by omega) (by rw [up1_ne (by omega)]; exact hws j hj hp)
        · rw [f3 a h1 h2, up1_ne h1]; exact g3 a h1 h2
        · rw [f4 q (by omega), up1_same, upd_ne (by omega)]; exact g4 q hq
    · simp only [c, if_false] at hE2 ⊢
      have hp2 := p2_tab i hi6
      have c1 : us / 2 ^ i % 2 = 1 := by omega
      rw [c1, Int.one_mul, if_neg (by rw [iI_eq (by omega) (by omega) (by omega) (by omega)]; omega)]
      simp (disch := first | assumption | omega | exact isB_z | exact isB_o | exact iI_in' (by assumption) (by omega) (by omega) | exact cat_int _ | exact cat_ref _ | exact cat_null | decide) only [↓x_8_147, ↓x_8_150, up1_same, up1_ne, up1_up1, us_0, us_1, us_2, us_3, us_4, us_5, us_6, us_7, us_8, us_9, us_10, us_11, rw_zero, rw_succ, Option.toList_some, Option.toList_none, List.cons_append, List.nil_append, cat_int, cat_ref, cat_null, iI_add, iI_sub, iI_mul, iI_neg, List.length_cons, List.length_nil, ↓reduceIte, va_rf_some, orR, wkW, wkR, wiR, ci]
      exact ih (i + 1) V A B (by omega) hT ho hw hws hks hord hb b0 b1 hF hE2
set_option maxHeartbeats 400000 in
theorem arr_succ {o n rem : Nat} {ks : Nat → Int} (hK : orK t o) (hP : orP P o) (hn : n ≤ 6) (hk : ∀ i : Nat, i < n → 0 ≤ ks i ∧ ks i < 34) (hIH : arrC t P o n ks d rem) : arrC t P o n ks d (rem + 1) := by
  intro place pre us m S V A B Q hpl hpre u0 u1 hS hm hs hT ho hw hws hks hord hb b0 b1 hQ
  have hK' := hK
  obtain ⟨k1, k2, k3, k4, k5, k6, k7, k8, k9, k10⟩ := hK
  have kw := k10 place (by omega)
  have pw := hP place (by omega)
  have pw' := hP (place + 1) (by omega)
  have kw' := k10 (place + 1) (by omega)
  have p0 : ¬ (place : Int) < 0 := by omega
  have p1 : ¬ (6 : Int) < place := by omega
  have e9 : (place : Int) < n := by omega
  have e8 : (place : Int) < 6 := by omega
  have tn1 : ((place : Nat) : Int).toNat = place := Int.toNat_natCast place
  have cs : ((place : Nat) : Int) + 1 = ((place + 1 : Nat) : Int) := by omega
  have tn2 : ((place + 1 : Nat) : Int).toNat = place + 1 := Int.toNat_natCast _
  simp only [arrF] at hQ
  show Call (d + rem + 7 + 1) 8 _ _ _
  obtain ⟨lg, hL⟩ : ∃ lg, S.2.2.2.2 = lg := ⟨_, rfl⟩
  rw [hL] at hQ
  have g0 := hS.2.2.2.2.2.2.1
  have g1 := hS.2.2.2.2.2.2.2
  rw [hL] at g0 g1
  simp (disch := first | assumption | omega | exact isB_z | exact isB_o | exact iI_in' (by assumption) (by omega) (by omega) | exact cat_int _ | exact cat_ref _ | exact cat_null | decide) only [c_8, ↓x_8_0, ↓x_8_1, ↓x_8_4, ↓x_8_5, ↓x_8_7, ↓x_8_10, ↓x_8_11, ↓x_8_12, ↓x_8_15, ↓x_8_16, ↓x_8_17, ↓x_8_18, ↓x_8_19, ↓x_8_22, ↓x_8_23, ↓x_8_26, ↓x_8_27, ↓x_8_30, ↓x_8_33, up1_same, up1_ne, up1_up1, us_0, us_1, us_2, us_3, us_4, us_5, us_6, us_7, us_8, us_9, us_10, us_11, rw_zero, rw_succ, Option.toList_some, Option.toList_none, List.cons_append, List.nil_append, cat_int, cat_ref, cat_null, iI_add, iI_sub, iI_mul, iI_neg, List.length_cons, List.length_nil, ↓reduceIte, va_rf_some, orR, wkW, wkR, wiR, ho, iI_lt, p0, p1, if_false, iI_cl, tn1, pw, hw, hL]
  by_cases c : lg < B.2
  · have c' : ¬ B.2 ≤ lg := by omega
    simp only [c, c', if_true, if_false] at hQ ⊢
    simp (disch := first | assumption | omega | exact isB_z | exact isB_o | exact iI_in' (by assumption) (by omega) (by omega) | exact cat_int _ | exact cat_ref _ | exact cat_null | decide) only [↓x_8_34, ↓x_8_35, ↓x_8_36, ↓x_8_39, ↓x_8_42, ↓x_8_43, ↓x_8_45, up1_same, up1_ne, up1_up1, us_0, us_1, us_2, us_3, us_4, us_5, us_6, us_7, us_8, us_9, us_10, us_11, rw_zero, rw_succ, Option.toList_some, Option.toList_none, List.cons_append, List.nil_append, cat_int, cat_ref, cat_null, iI_add, iI_sub, iI_mul, iI_neg, List.length_cons, List.length_nil, ↓reduceIte, va_rf_some, orR, wkW, wkR, wiR, ho, iI_lt, e9, e8, if_true]
    simp (disch := first | assumption | omega | exact isB_z | exact isB_o | exact iI_in' (by assumption) (by omega) (by omega) | exact cat_int _ | exact cat_ref _ | exact cat_null | decide) only [↓x_8_57, ↓x_8_58, ↓x_8_61, ↓x_8_62, ↓x_8_63, ↓x_8_64, ↓x_8_65, ↓x_8_67, ↓x_8_68, up1_same, up1_ne, up1_up1, us_0, us_1, us_2, us_3, us_4, us_5, us_6, us_7, us_8, us_9, us_10, us_11, rw_zero, rw_succ, Option.toList_some, Option.toList_none, List.cons_append, List.nil_append, cat_int, cat_ref, cat_null, iI_add, iI_sub, iI_mul, iI_neg, List.length_cons, List.length_nil, ↓reduceIte, va_rf_some, orR, wkW, wkR, wiR, ho, iI_cl, cs, tn2, pw']
    exact arr_loop hK' hP hn hIH hpl hpre u0 u1 hS (by omega) hs hk hQ n 0 V A B (by omega) hT ho hw hws hks hord hb b0 b1 orF.rf rfl
  · have c' : B.2 ≤ lg := by omega
    simp only [c, c', if_true, if_false] at hQ ⊢
    exact hQ V A ho hb orF.rf
theorem k_arrange {o n : Nat} {ks : Nat → Int} (hK : orK t o) (hP : orP P o) (hn : n ≤ 6) (hk : ∀ i : Nat, i < n → 0 ≤ ks i ∧ ks i < 34) : ∀ rem, arrC t P o n ks d rem := by
  intro rem
  induction rem with
  | zero => exact arr_0 hK hP hn
  | succ rem ih => exact arr_succ hK hP hn hk ih
end
