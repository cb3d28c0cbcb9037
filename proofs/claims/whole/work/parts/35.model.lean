/-! THE MODEL: its memory and what it stands for -/
/-- the model's object: its numbers are those of g, its rows lie where they lie -/
def mdR (g : Nat → Int) : Nat → Value := fun k => match k with
  | 1 => .ref 63
  | 2 => .ref 64
  | 4 => .ref 65
  | 5 => .ref 66
  | 6 => .ref 67
  | 8 => .ref 68
  | 10 => .ref 69
  | 11 => .ref 70
  | 19 => .ref 71
  | 20 => .ref 72
  | 21 => .ref 73
  | 22 => .ref 74
  | 25 => .ref 75
  | 30 => .ref 76
  | 31 => .ref 77
  | k => if k < 32 then .int (iI (g k)) else .null
theorem md_0 (g : Nat → Int) : mdR g 0 = .int (iI (g 0)) := rfl
theorem md_1 (g : Nat → Int) : mdR g 1 = .ref 63 := rfl
theorem md_2 (g : Nat → Int) : mdR g 2 = .ref 64 := rfl
theorem md_3 (g : Nat → Int) : mdR g 3 = .int (iI (g 3)) := rfl
theorem md_4 (g : Nat → Int) : mdR g 4 = .ref 65 := rfl
theorem md_5 (g : Nat → Int) : mdR g 5 = .ref 66 := rfl
theorem md_6 (g : Nat → Int) : mdR g 6 = .ref 67 := rfl
theorem md_7 (g : Nat → Int) : mdR g 7 = .int (iI (g 7)) := rfl
theorem md_8 (g : Nat → Int) : mdR g 8 = .ref 68 := rfl
theorem md_9 (g : Nat → Int) : mdR g 9 = .int (iI (g 9)) := rfl
theorem md_10 (g : Nat → Int) : mdR g 10 = .ref 69 := rfl
theorem md_11 (g : Nat → Int) : mdR g 11 = .ref 70 := rfl
theorem md_12 (g : Nat → Int) : mdR g 12 = .int (iI (g 12)) := rfl
theorem md_13 (g : Nat → Int) : mdR g 13 = .int (iI (g 13)) := rfl
theorem md_14 (g : Nat → Int) : mdR g 14 = .int (iI (g 14)) := rfl
theorem md_15 (g : Nat → Int) : mdR g 15 = .int (iI (g 15)) := rfl
theorem md_16 (g : Nat → Int) : mdR g 16 = .int (iI (g 16)) := rfl
theorem md_17 (g : Nat → Int) : mdR g 17 = .int (iI (g 17)) := rfl
theorem md_18 (g : Nat → Int) : mdR g 18 = .int (iI (g 18)) := rfl
theorem md_19 (g : Nat → Int) : mdR g 19 = .ref 71 := rfl
theorem md_20 (g : Nat → Int) : mdR g 20 = .ref 72 := rfl
theorem md_21 (g : Nat → Int) : mdR g 21 = .ref 73 := rfl
theorem md_22 (g : Nat → Int) : mdR g 22 = .ref 74 := rfl
theorem md_23 (g : Nat → Int) : mdR g 23 = .int (iI (g 23)) := rfl
theorem md_24 (g : Nat → Int) : mdR g 24 = .int (iI (g 24)) := rfl
theorem md_25 (g : Nat → Int) : mdR g 25 = .ref 75 := rfl
theorem md_26 (g : Nat → Int) : mdR g 26 = .int (iI (g 26)) := rfl
theorem md_27 (g : Nat → Int) : mdR g 27 = .int (iI (g 27)) := rfl
theorem md_28 (g : Nat → Int) : mdR g 28 = .int (iI (g 28)) := rfl
theorem md_29 (g : Nat → Int) : mdR g 29 = .int (iI (g 29)) := rfl
theorem md_30 (g : Nat → Int) : mdR g 30 = .ref 76 := rfl
theorem md_31 (g : Nat → Int) : mdR g 31 = .ref 77 := rfl
theorem mdR_up {g : Nat → Int} {k : Nat} {z : Int} (hk : k ∈ [0, 3, 7, 9, 12, 13, 14, 15, 16, 17, 18, 23, 24, 26, 27, 28, 29]) : up1 (mdR g) k (.int (iI z)) = mdR (up1 g k z) := by
  funext j
  simp only [List.mem_cons, List.not_mem_nil, or_false] at hk
  by_cases h : j = k
  · subst h
    rcases hk with rfl | rfl | rfl | rfl | rfl | rfl | rfl | rfl | rfl | rfl | rfl | rfl | rfl | rfl | rfl | rfl | rfl <;> rfl
  · rw [up1_ne h]
    unfold mdR
    split <;> first | rfl | (rw [up1_ne h])
theorem mu_0 (g : Nat → Int) (z : Int) : up1 (mdR g) 0 (.int (iI z)) = mdR (up1 g 0 z) := mdR_up (by decide)
theorem mu_3 (g : Nat → Int) (z : Int) : up1 (mdR g) 3 (.int (iI z)) = mdR (up1 g 3 z) := mdR_up (by decide)
theorem mu_7 (g : Nat → Int) (z : Int) : up1 (mdR g) 7 (.int (iI z)) = mdR (up1 g 7 z) := mdR_up (by decide)
theorem mu_9 (g : Nat → Int) (z : Int) : up1 (mdR g) 9 (.int (iI z)) = mdR (up1 g 9 z) := mdR_up (by decide)
theorem mu_12 (g : Nat → Int) (z : Int) : up1 (mdR g) 12 (.int (iI z)) = mdR (up1 g 12 z) := mdR_up (by decide)
theorem mu_13 (g : Nat → Int) (z : Int) : up1 (mdR g) 13 (.int (iI z)) = mdR (up1 g 13 z) := mdR_up (by decide)
theorem mu_14 (g : Nat → Int) (z : Int) : up1 (mdR g) 14 (.int (iI z)) = mdR (up1 g 14 z) := mdR_up (by decide)
theorem mu_15 (g : Nat → Int) (z : Int) : up1 (mdR g) 15 (.int (iI z)) = mdR (up1 g 15 z) := mdR_up (by decide)
theorem mu_16 (g : Nat → Int) (z : Int) : up1 (mdR g) 16 (.int (iI z)) = mdR (up1 g 16 z) := mdR_up (by decide)
theorem mu_17 (g : Nat → Int) (z : Int) : up1 (mdR g) 17 (.int (iI z)) = mdR (up1 g 17 z) := mdR_up (by decide)
theorem mu_18 (g : Nat → Int) (z : Int) : up1 (mdR g) 18 (.int (iI z)) = mdR (up1 g 18 z) := mdR_up (by decide)
theorem mu_23 (g : Nat → Int) (z : Int) : up1 (mdR g) 23 (.int (iI z)) = mdR (up1 g 23 z) := mdR_up (by decide)
theorem mu_24 (g : Nat → Int) (z : Int) : up1 (mdR g) 24 (.int (iI z)) = mdR (up1 g 24 z) := mdR_up (by decide)
theorem mu_26 (g : Nat → Int) (z : Int) : up1 (mdR g) 26 (.int (iI z)) = mdR (up1 g 26 z) := mdR_up (by decide)
theorem mu_27 (g : Nat → Int) (z : Int) : up1 (mdR g) 27 (.int (iI z)) = mdR (up1 g 27 z) := mdR_up (by decide)
theorem mu_28 (g : Nat → Int) (z : Int) : up1 (mdR g) 28 (.int (iI z)) = mdR (up1 g 28 z) := mdR_up (by decide)
theorem mu_29 (g : Nat → Int) (z : Int) : up1 (mdR g) 29 (.int (iI z)) = mdR (up1 g 29 z) := mdR_up (by decide)
/-- where the model's rows lie -/
def mK (t : mL) : Prop := kd t 62 = 5 ∧ (kd t 63 = 6 ∧ ln t 63 = 228) ∧ (kd t 64 = 6 ∧ ln t 64 = 1368) ∧ (kd t 65 = 6 ∧ ln t 65 = 456) ∧ (kd t 66 = 7 ∧ ln t 66 = 2) ∧ (kd t 67 = 6 ∧ ln t 67 = 120) ∧ (kd t 68 = 6 ∧ ln t 68 = 60) ∧ (kd t 69 = 6 ∧ ln t 69 = 64) ∧ (kd t 70 = 6 ∧ ln t 70 = 64) ∧ (kd t 71 = 6 ∧ ln t 71 = 32) ∧ (kd t 72 = 6 ∧ ln t 72 = 32) ∧ (kd t 73 = 6 ∧ ln t 73 = 32) ∧ (kd t 74 = 6 ∧ ln t 74 = 32) ∧ (kd t 75 = 6 ∧ ln t 75 = 192) ∧ (kd t 76 = 6 ∧ ln t 76 = 6) ∧ kd t 77 = 6 ∧ ln t 77 = 6
/-- a row of 228 stands for a wire -/
def mH (f : Nat → Int32) (X : aW) : Prop := (f 0 = iI X.1.length) ∧ (f 1 = iI (sm X.1)) ∧ (f 2 = iI (rc X.1).1) ∧ (f 3 = iI (rc X.1).2) ∧ (∀ i : Nat, i < X.1.length → f (4 + i) = iI (X.1.getD i 0)) ∧ (∀ b : Nat, b < 6 * X.1.length → f (36 + b) = iI (btA X.2 b))
theorem mH.h0 {f : Nat → Int32} {X : aW} (h : mH f X) : f 0 = iI X.1.length := h.1
theorem mH.h1 {f : Nat → Int32} {X : aW} (h : mH f X) : f 1 = iI (sm X.1) := h.2.1
theorem mH.h2 {f : Nat → Int32} {X : aW} (h : mH f X) : f 2 = iI (rc X.1).1 := h.2.2.1
theorem mH.h3 {f : Nat → Int32} {X : aW} (h : mH f X) : f 3 = iI (rc X.1).2 := h.2.2.2.1
theorem mH.h4 {f : Nat → Int32} {X : aW} (h : mH f X) : ∀ i : Nat, i < X.1.length → f (4 + i) = iI (X.1.getD i 0) := h.2.2.2.2.1
theorem mH.h5 {f : Nat → Int32} {X : aW} (h : mH f X) : ∀ b : Nat, b < 6 * X.1.length → f (36 + b) = iI (btA X.2 b) := h.2.2.2.2.2
def imM (A : Nat → Nat → Int32) (i : Nat) : Option aW → Prop
  | none => A 66 i = iI 0
  | some Y => A 66 i = iI 1 ∧ mH (fun k => A 65 (228 * i + k)) Y
/-- in which forms a number stands -/
def ifm (n : Int) : Int := (if fR n (-1) = true then 1 else 0) + (if fR n 1 = true then 2 else 0)
def tabL (A : Nat → Nat → Int32) : Prop := ∀ v : Nat, v < 64 → A 69 v = iI (mn v) ∧ A 70 v = iI (ifm v)
def RM (g : Nat → Int) (A : Nat → Nat → Int32) (S : aS) : Prop := (mH (A 63) S.X) ∧ (g 3 = S.U.length) ∧ (∀ i, i < S.U.length → mH (fun k => A 64 (228 * i + k)) (S.U.getD i ([], []))) ∧ (∀ i, i < 2 → imM A i (S.I i)) ∧ (g 7 = S.T.length) ∧ (∀ i, i < S.T.length → A 67 i = iI (S.T.getD i 0)) ∧ (g 12 = 0 ∨ (g 12 = 1 ∧ tabL A))
theorem RM.wi {g : Nat → Int} {A : Nat → Nat → Int32} {S : aS} (h : RM g A S) : mH (A 63) S.X := h.1
theorem RM.um {g : Nat → Int} {A : Nat → Nat → Int32} {S : aS} (h : RM g A S) : g 3 = S.U.length := h.2.1
theorem RM.ew {g : Nat → Int} {A : Nat → Nat → Int32} {S : aS} (h : RM g A S) : ∀ i, i < S.U.length → mH (fun k => A 64 (228 * i + k)) (S.U.getD i ([], [])) := h.2.2.1
theorem RM.im {g : Nat → Int} {A : Nat → Nat → Int32} {S : aS} (h : RM g A S) : ∀ i, i < 2 → imM A i (S.I i) := h.2.2.2.1
theorem RM.ty {g : Nat → Int} {A : Nat → Nat → Int32} {S : aS} (h : RM g A S) : g 7 = S.T.length := h.2.2.2.2.1
theorem RM.tx {g : Nat → Int} {A : Nat → Nat → Int32} {S : aS} (h : RM g A S) : ∀ i, i < S.T.length → A 67 i = iI (S.T.getD i 0) := h.2.2.2.2.2.1
theorem RM.la {g : Nat → Int} {A : Nat → Nat → Int32} {S : aS} (h : RM g A S) : g 12 = 0 ∨ (g 12 = 1 ∧ tabL A) := h.2.2.2.2.2.2
/-- the state is one -/
def wfS (S : aS) : Prop := (wf S.X) ∧ (S.U.length ≤ 6) ∧ (∀ i, i < S.U.length → wf (S.U.getD i ([], []))) ∧ (∀ i, i < 2 → ∀ Y, S.I i = some Y → wf Y) ∧ (S.T.length ≤ 120) ∧ (∀ i : Nat, i < S.T.length → 0 ≤ S.T.getD i 0 ∧ S.T.getD i 0 ≤ 255)
theorem wfS.wo {S : aS} (h : wfS S) : wf S.X := h.1
theorem wfS.ul {S : aS} (h : wfS S) : S.U.length ≤ 6 := h.2.1
theorem wfS.uw {S : aS} (h : wfS S) : ∀ i, i < S.U.length → wf (S.U.getD i ([], [])) := h.2.2.1
theorem wfS.iw {S : aS} (h : wfS S) : ∀ i, i < 2 → ∀ Y, S.I i = some Y → wf Y := h.2.2.2.1
theorem wfS.tl {S : aS} (h : wfS S) : S.T.length ≤ 120 := h.2.2.2.2.1
theorem wfS.tx {S : aS} (h : wfS S) : ∀ i : Nat, i < S.T.length → 0 ≤ S.T.getD i 0 ∧ S.T.getD i 0 ≤ 255 := h.2.2.2.2.2
theorem RX.wfS {V : Nat → Nat → Value} {A : Nat → Nat → Int32} {P : Nat → Nat → Option Nat} {S : aS} {e : Nat → Nat} (h : RX V A P S e) : wfS S := by
  refine ⟨h.wo, h.ul, fun i hi => (h.ew i hi).2, fun i hi Y hY => ?_, h.tl, fun i hi => (h.tx i hi).2⟩
  have := h.im i hi
  rw [hY] at this
  exact this.2.2
theorem imM_eq {A A' : Nat → Nat → Int32} {i : Nat} {Y : Option aW} (h : imM A i Y) (h5 : A' 65 = A 65) (h6 : A' 66 = A 66) : imM A' i Y := by
  cases Y with
  | none => exact (congrFun h6 i).trans h
  | some Y =>
    refine ⟨(congrFun h6 i).trans h.1, ?_⟩
    rw [h5]
    exact h.2
/-- what a question leaves -/
theorem RM.keep {g g' : Nat → Int} {A A' : Nat → Nat → Int32} {S : aS} (h : RM g A S) (h3 : g' 3 = g 3) (h7 : g' 7 = g 7) (hA : ∀ a, 63 ≤ a → a ≤ 67 → A' a = A a) (hl : g' 12 = 0 ∨ (g' 12 = 1 ∧ tabL A')) : RM g' A' S := by
  refine ⟨by rw [hA 63 (by omega) (by omega)]; exact h.wi, h3.trans h.um, fun i hi => ?_, fun i hi => imM_eq (h.im i hi) (hA 65 (by omega) (by omega)) (hA 66 (by omega) (by omega)), h7.trans h.ty, fun i hi => by rw [hA 67 (by omega) (by omega)]; exact h.tx i hi, hl⟩
  rw [hA 64 (by omega) (by omega)]
  exact h.ew i hi
theorem tabL_eq {A A' : Nat → Nat → Int32} (h : tabL A) (h9 : A' 69 = A 69) (h0 : A' 70 = A 70) : tabL A' := fun v hv => by rw [h9, h0]; exact h v hv
/-- a question that touches no table -/
theorem RM.keep' {g g' : Nat → Int} {A A' : Nat → Nat → Int32} {S : aS} (h : RM g A S) (h3 : g' 3 = g 3) (h7 : g' 7 = g 7) (h12 : g' 12 = g 12) (hA : ∀ a, 63 ≤ a → a ≤ 70 → a ≠ 68 → A' a = A a) : RM g' A' S :=
  h.keep h3 h7 (fun a h1 h2 => hA a h1 (by omega) (by omega)) (by rw [h12]; rcases h.la with q | ⟨q, q2⟩; exact Or.inl q; exact Or.inr ⟨q, tabL_eq q2 (hA 69 (by omega) (by omega) (by omega)) (hA 70 (by omega) (by omega) (by omega))⟩)
/-- what a call of the model leaves for Q -/
def hqM (t : mL) (V : Nat → Nat → Value) (A : Nat → Nat → Int32) (P : Nat → Nat → Option Nat) (Q : Option Value → mM → Prop) (r : Int × aS) : Prop := ∀ (g' : Nat → Int) (A' : Nat → Nat → Int32), RM g' A' r.2 → (∀ a, a < 62 → A' a = A a) → Q (some (.int (iI r.1))) (t, up1 V 62 (mdR g'), A', P)
section
variable {d : Nat} {t : mL} {V : Nat → Nat → Value} {A : Nat → Nat → Int32} {P : Nat → Nat → Option Nat} {μ : mM} {Q : Option Value → mM → Prop} {S : aS} {g : Nat → Int}
theorem k_in {v a b : Int} (h1 : -2147483648 ≤ v ∧ v < 2147483648) (h2 : -2147483648 ≤ a ∧ a < 2147483648) (h3 : -2147483648 ≤ b ∧ b < 2147483648) : Call (d + 1) 79 [.int (iI v), .int (iI a), .int (iI b)] μ Q = Q (some (.int (iI (if a ≤ v ∧ v ≤ b then 1 else 0)))) μ := by
  simp (disch := first | assumption | omega | exact isB_z | exact isB_o | exact iI_in' (by assumption) (by omega) (by omega) | exact cat_int _ | exact cat_ref _ | exact cat_null | decide) only [c_79, ↓x_79_0, ↓x_79_1, ↓x_79_2, ↓x_79_5, ↓x_79_6, ↓x_79_7, ↓x_79_10, ↓x_79_11, ↓x_79_14, ↓x_79_15, up1_same, up1_ne, up1_up1, us_0, us_1, us_2, us_3, us_4, us_5, us_6, us_7, us_8, us_9, us_10, us_11, rw_zero, rw_succ, Option.toList_some, Option.toList_none, List.cons_append, List.nil_append, cat_int, cat_ref, cat_null, iI_add, iI_sub, iI_mul, iI_neg, List.length_cons, List.length_nil, ↓reduceIte, va_rf_some, iI_lt, isB_0, isB_1]
  by_cases c : v < a
  · rw [if_pos c, if_neg (by omega)]
  · by_cases c2 : b < v
    · rw [if_neg c, if_pos c2, if_neg (by omega)]
    · rw [if_neg c, if_neg c2, if_pos (by omega)]
theorem ones_tab : ∀ n : Nat, n < 64 → (n : Int) / 2 ^ 0 % 2 + (n : Int) / 2 ^ 1 % 2 + (n : Int) / 2 ^ 2 % 2 + (n : Int) / 2 ^ 3 % 2 + (n : Int) / 2 ^ 4 % 2 + (n : Int) / 2 ^ 5 % 2 = pcI n := by decide +kernel
theorem k_onesM {n : Int} (h0 : 0 ≤ n) (h1 : n < 64) : Call (d + 1) 80 [.int (iI n)] μ Q = Q (some (.int (iI (pcI n)))) μ := by
  have e0 := sh_6 h0 h1 (j := 0) (by omega) (by omega)
  have e1 := sh_6 h0 h1 (j := 1) (by omega) (by omega)
  have e2 := sh_6 h0 h1 (j := 2) (by omega) (by omega)
  have e3 := sh_6 h0 h1 (j := 3) (by omega) (by omega)
  have e4 := sh_6 h0 h1 (j := 4) (by omega) (by omega)
  have e5 := sh_6 h0 h1 (j := 5) (by omega) (by omega)
  have ht := bdd (P := fun n => n / 2 ^ 0 % 2 + n / 2 ^ 1 % 2 + n / 2 ^ 2 % 2 + n / 2 ^ 3 % 2 + n / 2 ^ 4 % 2 + n / 2 ^ 5 % 2 = pcI n) ones_tab h0 h1
  rw [← ht]
  simp (disch := first | assumption | omega | exact isB_z | exact isB_o | exact iI_in' (by assumption) (by omega) (by omega) | exact cat_int _ | exact cat_ref _ | exact cat_null | decide) only [c_80, ↓x_80_0, ↓x_80_1, ↓x_80_2, ↓x_80_3, ↓x_80_4, ↓x_80_5, ↓x_80_7, ↓x_80_10, ↓x_80_11, ↓x_80_12, ↓x_80_13, ↓x_80_14, ↓x_80_15, ↓x_80_16, ↓x_80_17, ↓x_80_18, ↓x_80_21, ↓x_80_24, ↓x_80_25, up1_same, up1_ne, up1_up1, us_0, us_1, us_2, us_3, us_4, us_5, us_6, us_7, us_8, us_9, us_10, us_11, rw_zero, rw_succ, Option.toList_some, Option.toList_none, List.cons_append, List.nil_append, cat_int, cat_ref, cat_null, iI_add, iI_sub, iI_mul, iI_neg, List.length_cons, List.length_nil, ↓reduceIte, va_rf_some, iI_lt, Int.reduceLT, Int.reduceAdd, if_true, if_false, e0, e1, e2, e3, e4, e5]
  simp only [Int.reduceToNat, Int.zero_add]
theorem k_isMark {n : Int} (h1 : -2147483648 ≤ n ∧ n < 2147483648) : Call (d + 1) 81 [.int (iI n)] μ Q = Q (some (.int (iI (if n = 15 ∨ n = 30 ∨ n = 60 then 1 else 0)))) μ := by
  simp (disch := first | assumption | omega | exact isB_z | exact isB_o | exact iI_in' (by assumption) (by omega) (by omega) | exact cat_int _ | exact cat_ref _ | exact cat_null | decide) only [c_81, ↓x_81_0, ↓x_81_1, ↓x_81_3, ↓x_81_6, ↓x_81_7, ↓x_81_9, ↓x_81_12, ↓x_81_13, ↓x_81_15, ↓x_81_18, ↓x_81_19, ↓x_81_22, ↓x_81_23, up1_same, up1_ne, up1_up1, us_0, us_1, us_2, us_3, us_4, us_5, us_6, us_7, us_8, us_9, us_10, us_11, rw_zero, rw_succ, Option.toList_some, Option.toList_none, List.cons_append, List.nil_append, cat_int, cat_ref, cat_null, iI_add, iI_sub, iI_mul, iI_neg, List.length_cons, List.length_nil, ↓reduceIte, va_rf_some, iI_eq, isB_0, isB_1]
  by_cases a : n = 15
  · simp [a]
  · by_cases b : n = 30
    · simp [b]
    · by_cases c : n = 60
      · simp [c]
      · simp [a, b, c]
end
