/-! ORDERS -/
abbrev orR (o : Nat) (n l : Int) : Nat → Value := rw' [.ref (o + 1), .ref (o + 2), .ref (o + 3), .ref (o + 4), .int (iI n), .int (iI l)]
def orK (t : mL) (o : Nat) : Prop := kd t o = 0 ∧ kd t (o + 1) = 8 ∧ ln t (o + 1) = 7 ∧ kd t (o + 2) = 6 ∧ ln t (o + 2) = 6 ∧ kd t (o + 3) = 6 ∧ ln t (o + 3) = 6 ∧ kd t (o + 4) = 6 ∧ ln t (o + 4) = 6 ∧ ∀ j : Nat, j < 7 → kd t (o + 5 + j) = 2
/-- the row of walks -/
def orP (P : Nat → Nat → Option Nat) (o : Nat) : Prop := ∀ j : Nat, j < 7 → P (o + 1) j = some (o + 5 + j)
def cp6 (f g : Nat → Int32) : Nat → Int32 := upd (upd (upd (upd (upd (upd f 0 (g 0)) 1 (g 1)) 2 (g 2)) 3 (g 3)) 4 (g 4)) 5 (g 5)
theorem cp6_at (f g : Nat → Int32) {i : Nat} (h : i < 6) : cp6 f g i = g i := by
  match i, h with
  | 0, _ => rfl
  | 1, _ => rfl
  | 2, _ => rfl
  | 3, _ => rfl
  | 4, _ => rfl
  | 5, _ => rfl
  | n + 6, h => omega
def forI {β : Type} (F : Nat → β → β) : Nat → Nat → β → β
  | _, 0, b => b
  | i, k + 1, b => forI F (i + 1) k (F i b)
def orU (n : Int) (j : Nat) : Int := if n / 2 ^ j % 2 = 1 then n else n + 2 ^ j
theorem or_tab : ∀ j : Nat, j < 6 → ∀ n : Nat, n < 64 → iI n ||| iI (2 ^ j) = iI (orU n j) ∧ 0 ≤ orU n j ∧ orU n j < 64 := by decide +kernel
theorem or_6 {n : Int} {j : Nat} (h0 : 0 ≤ n) (h1 : n < 64) (j1 : j < 6) : iI n ||| iI (2 ^ j) = iI (orU n j) ∧ 0 ≤ orU n j ∧ orU n j < 64 := by
  have := or_tab j j1 n.toNat (by omega)
  rwa [Int.toNat_of_nonneg h0] at this
/-- the search: best order and its longest run -/
def arrF (n : Nat) (ks : Nat → Int) : Nat → List Int → Int → Int × wS → (Nat → Int32) × Int → (Nat → Int32) × Int
  | 0, pre, _, S, B => if B.2 ≤ S.2.2.2.2 then B else ((fun i => iI (pre.getD i 0)), S.2.2.2.2)
  | rem + 1, pre, us, S, B => if B.2 ≤ S.2.2.2.2 then B else forI (fun i B => if us / 2 ^ i % 2 = 0 then arrF n ks rem (pre ++ [(i : Int)]) (orU us i) (tkG S (fD (ks i) S.1)).1 B else B) 0 n B
section
variable {d : Nat} {t : mL} {V : Nat → Nat → Value} {A : Nat → Nat → Int32} {P : Nat → Nat → Option Nat} {μ : mM} {Q : Option Value → mM → Prop}
theorem k_settle {o : Nat} {n l l' : Int} (hK : orK t o) (ho : V o = orR o n l) : Call (d + 1) 12 [.ref o, .int (iI l')] (t, V, A, P) Q = Q none (t, up1 V o (orR o n l'), up1 A (o + 4) (cp6 (A (o + 4)) (A (o + 3))), P) := by
  obtain ⟨k1, k2, k3, k4, k5, k6, k7, k8, k9, k10⟩ := hK
  simp (disch := first | assumption | omega | exact isB_z | exact isB_o | exact iI_in' (by assumption) (by omega) (by omega) | exact cat_int _ | exact cat_ref _ | exact cat_null | decide) only [c_12, ↓x_12_0, ↓x_12_1, ↓x_12_2, ↓x_12_5, ↓x_12_6, ↓x_12_7, ↓x_12_8, ↓x_12_10, ↓x_12_13, ↓x_12_14, ↓x_12_17, ↓x_12_18, ↓x_12_19, ↓x_12_22, ↓x_12_23, ↓x_12_24, ↓x_12_25, ↓x_12_28, ↓x_12_31, up1_same, up1_ne, up1_up1, us_0, us_1, us_2, us_3, us_4, us_5, us_6, us_7, us_8, us_9, us_10, us_11, rw_zero, rw_succ, Option.toList_some, Option.toList_none, List.cons_append, List.nil_append, cat_int, cat_ref, cat_null, iI_add, iI_sub, iI_mul, iI_neg, List.length_cons, List.length_nil, ↓reduceIte, va_rf_some, orR, wkW, wkR, wiR, ho, iI_lt, Int.reduceLT, Int.reduceAdd, if_true, if_false, iI_cl, Int.reduceToNat]
  rfl
theorem k_bestAt {o : Nat} {n l i : Int} (hK : orK t o) (ho : V o = orR o n l) (hn : n ≤ 6) (h0 : 0 ≤ i) (h1 : i < n) : Call (d + 1) 10 [.ref o, .int (iI i)] (t, V, A, P) Q = Q (some (.int (A (o + 4) i.toNat))) (t, V, A, P) := by
  obtain ⟨k1, k2, k3, k4, k5, k6, k7, k8, k9, k10⟩ := hK
  have e1 : ¬ i < 0 := by omega
  have e2 : i < 6 := by omega
  simp (disch := first | assumption | omega | exact isB_z | exact isB_o | exact iI_in' (by assumption) (by omega) (by omega) | exact cat_int _ | exact cat_ref _ | exact cat_null | decide) only [c_10, ↓x_10_0, ↓x_10_1, ↓x_10_4, ↓x_10_5, ↓x_10_6, ↓x_10_9, ↓x_10_12, ↓x_10_13, ↓x_10_15, ↓x_10_18, ↓x_10_19, ↓x_10_22, ↓x_10_23, ↓x_10_24, ↓x_10_27, ↓x_10_29, up1_same, up1_ne, up1_up1, us_0, us_1, us_2, us_3, us_4, us_5, us_6, us_7, us_8, us_9, us_10, us_11, rw_zero, rw_succ, Option.toList_some, Option.toList_none, List.cons_append, List.nil_append, cat_int, cat_ref, cat_null, iI_add, iI_sub, iI_mul, iI_neg, List.length_cons, List.length_nil, ↓reduceIte, va_rf_some, orR, wkW, wkR, wiR, ho, iI_lt, e1, e2, h1, if_true, if_false, iI_cl]
/-- what a search keeps: all but its own rows, and of these what lies ahead -/
def orF (o place : Nat) (V V' : Nat → Nat → Value) (A A' : Nat → Nat → Int32) : Prop := (∀ a, a ≠ o → ¬ (o + 5 + place < a ∧ a < o + 12) → V' a = V a) ∧ (∀ j, j < 7 → place < j → (∃ s W, V (o + 5 + j) = wkW s W) → ∃ s W, V' (o + 5 + j) = wkW s W) ∧ (∀ a, a ≠ o + 3 → a ≠ o + 4 → A' a = A a) ∧ ∀ i, i < place → A' (o + 3) i = A (o + 3) i
end
