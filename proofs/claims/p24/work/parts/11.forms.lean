/-! THE FORMS -/
def fA (k : Int) : Int := asA.getD k.toNat 0
def fB (k : Int) : Int := if k < 18 then fA k else 63 - fA k
def fD (k s : Int) : Int := if s = 1 then fB k else fA k
def mn (n : Int) : Int := asM.getD n.toNat 0
def pcL : List Int := [0, 1, 1, 2, 1, 2, 2, 3, 1, 2, 2, 3, 2, 3, 3, 4, 1, 2, 2, 3, 2, 3, 3, 4, 2, 3, 3, 4, 3, 4, 4, 5, 1, 2, 2, 3, 2, 3, 3, 4, 2, 3, 3, 4, 3, 4, 4, 5, 2, 3, 3, 4, 3, 4, 4, 5, 3, 4, 4, 5, 4, 5, 5, 6]
def pcI (n : Int) : Int := pcL.getD n.toNat 0
def sB (n s : Int) : Int := if pcI n = 3 then s else if 3 < pcI n then 1 else -1
def fR (n s : Int) : Bool := decide (¬ mn n = -9 ∧ fD (mn n) s = n)
def bcf (x : Int32) : Int32 :=
  let a := x - ((x.toUInt32 >>> ((iI 1).toUInt32 &&& Int32.toUInt32 31)).toInt32 &&& iI 1431655765)
  let b := (a &&& iI 858993459) + ((a.toUInt32 >>> ((iI 2).toUInt32 &&& Int32.toUInt32 31)).toInt32 &&& iI 858993459)
  let c := (b + (b.toUInt32 >>> ((iI 4).toUInt32 &&& Int32.toUInt32 31)).toInt32) &&& iI 252645135
  let e := c + (c.toUInt32 >>> ((iI 8).toUInt32 &&& Int32.toUInt32 31)).toInt32
  let f := e + (e.toUInt32 >>> ((iI 16).toUInt32 &&& Int32.toUInt32 31)).toInt32
  f &&& iI 63
theorem bcf_tab : ∀ k : Nat, k < 64 → bcf (iI k) = iI (pcI k) := by decide +kernel
theorem fA_tab : ∀ k : Nat, k < 34 → 0 ≤ fA k ∧ fA k < 64 := by decide +kernel
theorem mn_tab : ∀ k : Nat, k < 64 → mn k = -9 ∨ (0 ≤ mn k ∧ mn k < 34) := by decide +kernel
theorem pc_tab : ∀ k : Nat, k < 64 → 0 ≤ pcI k ∧ pcI k ≤ 6 := by decide +kernel
theorem fA_b {k : Int} (h0 : 0 ≤ k) (h1 : k < 34) : 0 ≤ fA k ∧ fA k < 64 := bdd (P := fun k => 0 ≤ fA k ∧ fA k < 64) fA_tab h0 h1
theorem fB_b {k : Int} (h0 : 0 ≤ k) (h1 : k < 34) : 0 ≤ fB k ∧ fB k < 64 := by
  have := fA_b h0 h1
  unfold fB
  split <;> omega
theorem fD_b {k : Int} (s : Int) (h0 : 0 ≤ k) (h1 : k < 34) : 0 ≤ fD k s ∧ fD k s < 64 := by
  unfold fD
  split
  · exact fB_b h0 h1
  · exact fA_b h0 h1
theorem mn_b {n : Int} (h0 : 0 ≤ n) (h1 : n < 64) : mn n = -9 ∨ (0 ≤ mn n ∧ mn n < 34) := bdd (P := fun n => mn n = -9 ∨ (0 ≤ mn n ∧ mn n < 34)) mn_tab h0 h1
theorem pc_b {n : Int} (h0 : 0 ≤ n) (h1 : n < 64) : 0 ≤ pcI n ∧ pcI n ≤ 6 := bdd (P := fun n => 0 ≤ pcI n ∧ pcI n ≤ 6) pc_tab h0 h1
theorem sB_b (n : Int) {s : Int} (h : s = -1 ∨ s = 1) : sB n s = -1 ∨ sB n s = 1 := by
  unfold sB
  split
  · exact h
  · split
    · exact Or.inr rfl
    · exact Or.inl rfl
/-- the tables lie where they lie -/
def tabs (t : mL) (A : Nat → Nat → Int32) : Prop := kd t 0 = 10 ∧ kd t 1 = 10 ∧ ln t 0 = 34 ∧ ln t 1 = 64 ∧ (∀ j, A 0 j = iI (asA.getD j 0)) ∧ ∀ j, A 1 j = iI (asM.getD j 0)
section
variable {d : Nat} {t : mL} {V : Nat → Nat → Value} {A : Nat → Nat → Int32} {P : Nat → Nat → Option Nat} {μ : mM} {Q : Option Value → mM → Prop}
theorem k_bitcount0 (x : Int32) : Call (d + 1) 75 [.int x] μ Q = Q (some (.int (bcf x))) μ := by
  simp only [c_75, ↓x_75_0, ↓x_75_1, ↓x_75_2, ↓x_75_3, ↓x_75_4, ↓x_75_7, ↓x_75_8, ↓x_75_9, ↓x_75_10, ↓x_75_11, ↓x_75_14, ↓x_75_15, ↓x_75_16, ↓x_75_17, ↓x_75_18, ↓x_75_21, ↓x_75_22, ↓x_75_23, ↓x_75_24, ↓x_75_25, ↓x_75_26, ↓x_75_27, ↓x_75_28, ↓x_75_29, ↓x_75_32, ↓x_75_33, ↓x_75_34, ↓x_75_35, ↓x_75_36, ↓x_75_38, ↓x_75_39, ↓x_75_40, ↓x_75_41, ↓x_75_42, ↓x_75_43, ↓x_75_45, ↓x_75_46, ↓x_75_47, ↓x_75_48, ↓x_75_49, ↓x_75_51, ↓x_75_52, bcf, cat_int]
theorem k_bitc {n : Int} (h0 : 0 ≤ n) (h1 : n < 64) : Call (d + 1) 75 [.int (iI n)] μ Q = Q (some (.int (iI (pcI n)))) μ := by
  rw [k_bitcount0, bdd (P := fun n => bcf (iI n) = iI (pcI n)) bcf_tab h0 h1]
theorem k_formDue {k s : Int} (hT : tabs t A) (h0 : 0 ≤ k) (h1 : k < 34) (hs : s = -1 ∨ s = 1) : Call (d + 1) 0 [.int (iI k), .int (iI s)] (t, V, A, P) Q = Q (some (.int (iI (fD k s)))) (t, V, A, P) := by
  obtain ⟨t1, t2, t3, t4, t5, t6⟩ := hT
  have e1 : ¬ k < 0 := by omega
  have e2 : k < ((34 : Nat) : Int) := by omega
  simp (disch := first | assumption | omega | exact isB_z | exact isB_o | exact iI_in' (by assumption) (by omega) (by omega) | exact cat_int _ | exact cat_ref _ | exact cat_null | decide) only [c_0, ↓x_0_0, ↓x_0_1, ↓x_0_4, ↓x_0_5, ↓x_0_8, ↓x_0_9, ↓x_0_12, ↓x_0_15, ↓x_0_16, ↓x_0_17, ↓x_0_20, ↓x_0_21, ↓x_0_22, ↓x_0_23, ↓x_0_24, ↓x_0_27, ↓x_0_28, ↓x_0_30, ↓x_0_33, ↓x_0_35, ↓x_0_36, ↓x_0_37, ↓x_0_40, ↓x_0_41, iI_lt, iI_eq, ofNat_iI, t3, e1, e2, if_false, if_true, iI_in, iI_cl, t5, iI_sub, cat_int]
  by_cases s1 : s = 1
  · by_cases k1 : k < 18
    · simp [fD, fB, fA, s1, k1]
    · simp [fD, fB, fA, s1, k1]
  · simp [fD, fA, s1]
theorem k_meaning {n : Int} (hT : tabs t A) (h0 : 0 ≤ n) (h1 : n < 64) : Call (d + 1) 1 [.int (iI n)] (t, V, A, P) Q = Q (some (.int (iI (mn n)))) (t, V, A, P) := by
  obtain ⟨t1, t2, t3, t4, t5, t6⟩ := hT
  have e1 : ¬ n < 0 := by omega
  simp (disch := first | assumption | omega | exact isB_z | exact isB_o | exact iI_in' (by assumption) (by omega) (by omega) | exact cat_int _ | exact cat_ref _ | exact cat_null | decide) only [c_1, ↓x_1_0, ↓x_1_1, ↓x_1_4, ↓x_1_5, ↓x_1_8, ↓x_1_9, ↓x_1_12, ↓x_1_15, ↓x_1_16, ↓x_1_17, ↓x_1_20, ↓x_1_22, iI_lt, ofNat_iI, t4, e1, if_false, iI_in, iI_cl, t6]
  rw [if_pos (by omega)]
  rfl
theorem k_isRight {n s : Int} (hT : tabs t A) (h0 : 0 ≤ n) (h1 : n < 64) (hs : s = -1 ∨ s = 1) : Call (d + 4) 2 [.int (iI n), .int (iI s)] (t, V, A, P) Q = Q (some (.int (iI (if fR n s = true then 1 else 0)))) (t, V, A, P) := by
  have hm := mn_b h0 h1
  simp (disch := first | assumption | omega | exact isB_z | exact isB_o | exact iI_in' (by assumption) (by omega) (by omega) | exact cat_int _ | exact cat_ref _ | exact cat_null | decide) only [c_2, ↓x_2_0, ↓x_2_1, ↓x_2_4, ↓x_2_5, ↓x_2_6, ↓x_2_8, ↓x_2_11, ↓x_2_12, ↓x_2_13, ↓x_2_16, ↓x_2_17, ↓x_2_20, ↓x_2_21, ↓x_2_24, ↓x_2_25, k_meaning hT, Option.toList_some, List.cons_append, List.nil_append, iI_eq, cat_int]
  by_cases hn : mn n = -9
  · simp [hn, fR, ↓x_2_0, ↓x_2_1, ↓x_2_4, ↓x_2_5, ↓x_2_6, ↓x_2_8, ↓x_2_11, ↓x_2_12, ↓x_2_13, ↓x_2_16, ↓x_2_17, ↓x_2_20, ↓x_2_21, ↓x_2_24, ↓x_2_25, isB_0]
  · have hm2 : 0 ≤ mn n ∧ mn n < 34 := by omega
    have hb := fD_b s hm2.1 hm2.2
    simp (disch := first | assumption | omega | exact isB_z | exact isB_o | exact iI_in' (by assumption) (by omega) (by omega) | exact cat_int _ | exact cat_ref _ | exact cat_null | decide) only [hn, if_false, k_formDue hT hm2.1 hm2.2 hs, Option.toList_some, List.cons_append, List.nil_append, ↓x_2_0, ↓x_2_1, ↓x_2_4, ↓x_2_5, ↓x_2_6, ↓x_2_8, ↓x_2_11, ↓x_2_12, ↓x_2_13, ↓x_2_16, ↓x_2_17, ↓x_2_20, ↓x_2_21, ↓x_2_24, ↓x_2_25, iI_eq, isB_0, isB_1]
    by_cases hf : fD (mn n) s = n
    · simp [hf, fR, hn]
    · simp [hf, fR]
theorem k_sumBehind {n s : Int} (h0 : 0 ≤ n) (h1 : n < 64) : Call (d + 2) 3 [.int (iI n), .int (iI s)] μ Q = Q (some (.int (iI (sB n s)))) μ := by
  have hp := pc_b h0 h1
  simp (disch := first | assumption | omega | exact isB_z | exact isB_o | exact iI_in' (by assumption) (by omega) (by omega) | exact cat_int _ | exact cat_ref _ | exact cat_null | decide) only [c_3, ↓x_3_0, ↓x_3_1, ↓x_3_4, ↓x_3_5, ↓x_3_6, ↓x_3_7, ↓x_3_10, ↓x_3_11, ↓x_3_12, ↓x_3_13, ↓x_3_14, ↓x_3_17, ↓x_3_18, ↓x_3_21, ↓x_3_22, k_bitc, Option.toList_some, List.cons_append, List.nil_append, iI_eq, iI_lt, cat_int]
  unfold sB
  split
  · rfl
  · split <;> rfl
end
