/-! THE CLASS'S CALLS, as the law makes them: the state is all that is known -/
section
variable {d : Nat} {t : mL} {V : Nat → Nat → Value} {A : Nat → Nat → Int32} {P : Nat → Nat → Option Nat} {Q : Option Value → mM → Prop} {S : aS} {xs : Nat → Int32}
/-- the class stands for the state; the tables and the script lie there -/
def lwJ (xs : Nat → Int32) (t : mL) (V : Nat → Nat → Value) (A : Nat → Nat → Int32) (P : Nat → Nat → Option Nat) (S : aS) : Prop := ∃ e, RX V A P S e ∧ tabs t A ∧ ∀ j, A 2 j = xs j
def hqJ (xs : Nat → Int32) (t : mL) (Q : Option Value → mM → Prop) (r : Int × aS) : Prop := ∀ (V' : Nat → Nat → Value) (A' : Nat → Nat → Int32) (P' : Nat → Nat → Option Nat), lwJ xs t V' A' P' r.2 → Q (some (.int (iI r.1))) (t, V', A', P')
theorem hqJ.T {r : Int × aS} (hQ : hqJ xs t Q r) (hT : tabs t A) (hx : ∀ j, A 2 j = xs j) : hqT t V A Q r := fun V' A' P' e' h f => hQ V' A' P' ⟨e', h, f.tabs hT, fun j => by rw [f.2 2 (by omega)]; exact hx j⟩
theorem lwJ.wo (h : lwJ xs t V A P S) : wf S.X ∧ S.U.length ≤ 6 := by
  obtain ⟨e, h, -⟩ := h
  exact ⟨h.wo, h.ul⟩
theorem kJ_bit {b : Int} (hK : exK t) (hJ : lwJ xs t V A P S) (h1 : -2147483648 ≤ b ∧ b < 2147483648) (hQ : hqJ xs t Q (aBit S.X b, S)) : Call (d + 20) 49 [.ref 3, .int (iI b)] (t, V, A, P) Q := by
  obtain ⟨e, h, hT, hx⟩ := hJ
  rw [show d + 20 = (d + 16) + 4 from rfl, k_bit hK h h1]
  exact hQ V A P ⟨e, h, hT, hx⟩
theorem kJ_word {b : Int} (hK : exK t) (hJ : lwJ xs t V A P S) (h1 : -2147483648 ≤ b ∧ b < 2147483648) (hQ : hqJ xs t Q (aWord S.X b, S)) : Call (d + 20) 50 [.ref 3, .int (iI b)] (t, V, A, P) Q := by
  obtain ⟨e, h, hT, hx⟩ := hJ
  rw [show d + 20 = (d + 19) + 1 from rfl, k_word hK h h1]
  exact hQ V A P ⟨e, h, hT, hx⟩
theorem kJ_recent {b : Int} (hK : exK t) (hJ : lwJ xs t V A P S) (h1 : -2147483648 ≤ b ∧ b < 2147483648) (hQ : hqJ xs t Q (aRecent S.X b, S)) : Call (d + 20) 51 [.ref 3, .int (iI b)] (t, V, A, P) Q := by
  obtain ⟨e, h, hT, hx⟩ := hJ
  rw [show d + 20 = (d + 18) + 2 from rfl, k_recent hK h h1]
  exact hQ V A P ⟨e, h, hT, hx⟩
theorem kJ_piece {f u p w : Int} (hK : exK t) (hJ : lwJ xs t V A P S) (h1 : -2147483648 ≤ f ∧ f < 2147483648) (h2 : -2147483648 ≤ u ∧ u < 2147483648) (h3 : -2147483648 ≤ p ∧ p < 2147483648) (h4 : -2147483648 ≤ w ∧ w < 2147483648) (hQ : hqJ xs t Q (aPiece S.X f u p w, S)) : Call (d + 20) 52 [.ref 3, .int (iI f), .int (iI u), .int (iI p), .int (iI w)] (t, V, A, P) Q := by
  obtain ⟨e, h, hT, hx⟩ := hJ
  exact k_piece (d := d + 12) hK hT h h1 h2 h3 h4 (fun V' A' q => hQ V' A' P ⟨e, h.fq q, q.tabs hT, fun j => by rw [q.2.1 2 (by omega)]; exact hx j⟩)
theorem kJ_read {f u w : Int} (hK : exK t) (hJ : lwJ xs t V A P S) (h1 : -2147483648 ≤ f ∧ f < 2147483648) (h2 : -2147483648 ≤ u ∧ u < 2147483648) (h3 : -2147483648 ≤ w ∧ w < 2147483648) (hQ : hqJ xs t Q (aRead S.X f u w, S)) : Call (d + 20) 53 [.ref 3, .int (iI f), .int (iI u), .int (iI w)] (t, V, A, P) Q := by
  obtain ⟨e, h, hT, hx⟩ := hJ
  exact k_read (d := d + 11) hK hT h h1 h2 h3 (fun V' A' q => hQ V' A' P ⟨e, h.fq q, q.tabs hT, fun j => by rw [q.2.1 2 (by omega)]; exact hx j⟩)
theorem kJ_cuts {k : Int} (hK : exK t) (hJ : lwJ xs t V A P S) (h1 : -2147483648 ≤ k ∧ k < 2147483648) (hQ : hqJ xs t Q (aCuts S.X k, S)) : Call (d + 20) 54 [.ref 3, .int (iI k)] (t, V, A, P) Q := by
  obtain ⟨e, h, hT, hx⟩ := hJ
  exact k_cuts (d := d + 12) hK hT h h1 (fun V' A' q => hQ V' A' P ⟨e, h.fq q, q.tabs hT, fun j => by rw [q.2.1 2 (by omega)]; exact hx j⟩)
theorem kJ_level {x w : Int} (hK : exK t) (hJ : lwJ xs t V A P S) (h1 : -2147483648 ≤ x ∧ x < 2147483648) (h2 : -2147483648 ≤ w ∧ w < 2147483648) (hQ : hqJ xs t Q (aLevel S.X x w, S)) : Call (d + 20) 55 [.ref 3, .int (iI x), .int (iI w)] (t, V, A, P) Q := by
  obtain ⟨e, h, hT, hx⟩ := hJ
  exact k_level (d := d + 16) hK h h1 h2 (fun V' q => hQ V' A P ⟨e, h.fq q, hT, hx⟩)
theorem kJ_count {w : Int} (hK : exK t) (hJ : lwJ xs t V A P S) (h1 : -2147483648 ≤ w ∧ w < 2147483648) (hQ : hqJ xs t Q (aCount S w, S)) : Call (d + 20) 60 [.ref 3, .int (iI w)] (t, V, A, P) Q := by
  obtain ⟨e, h, hT, hx⟩ := hJ
  exact k_count (d := d + 15) hK h h1 (fun V' q => hQ V' A P ⟨e, h.fq q, hT, hx⟩)
theorem kJ_weight {a : Int} (hK : exK t) (hJ : lwJ xs t V A P S) (h1 : -2147483648 ≤ a ∧ a < 2147483648) (hQ : hqJ xs t Q (aWeight S.X a, S)) : Call (d + 20) 57 [.ref 3, .int (iI a)] (t, V, A, P) Q := by
  obtain ⟨e, h, hT, hx⟩ := hJ
  rw [show d + 20 = (d + 16) + 4 from rfl, k_weight hK h h1]
  exact hQ _ A P ⟨e, h.fq (fq_29 h.sc), hT, hx⟩
theorem kJ_even {n : Nat} (hK : exK t) (hJ : lwJ xs t V A P S) (h1 : 1 ≤ n ∧ n ≤ 6) (h2 : n ≤ S.X.1.length) (hQ : ∀ b : Nat → Int32, hqJ xs t Q ((srcF S.X n b).2, S)) : Call (d + 20) 56 [.ref 3, .int (iI (n : Int)), .int (iI (-1))] (t, V, A, P) Q := by
  obtain ⟨e, h, hT, hx⟩ := hJ
  refine k_evenest (d := d + 4) hK hT h (by omega) (by omega) (fun V' A' q => ?_)
  have ea : aEven S.X (A 21) (n : Int) (-1) = iI (srcF S.X n (A 21)).2 := by
    unfold aEven
    rw [if_neg (by omega), if_neg (by omega), if_neg (by omega), if_pos rfl, Int.toNat_natCast]
  rw [ea]
  exact hQ (A 21) V' A' P ⟨e, h.fq q, q.tabs hT, fun j => by rw [q.2.1 2 (by omega)]; exact hx j⟩
theorem kJ_sends {k : Int} (hK : exK t) (hJ : lwJ xs t V A P S) (h1 : -2147483648 ≤ k ∧ k < 2147483648) (hQ : hqJ xs t Q (aSends S k)) : Call (d + 20) 44 [.ref 3, .int (iI k)] (t, V, A, P) Q := by
  obtain ⟨e, h, hT, hx⟩ := hJ
  exact k_sends (d := d + 14) hK hT h h1 (hQ.T hT hx)
theorem kJ_marks {k : Int} (hK : exK t) (hJ : lwJ xs t V A P S) (h1 : -2147483648 ≤ k ∧ k < 2147483648) (hQ : hqJ xs t Q (aMarks S k)) : Call (d + 20) 45 [.ref 3, .int (iI k)] (t, V, A, P) Q := by
  obtain ⟨e, h, hT, hx⟩ := hJ
  exact k_marks (d := d + 14) hK hT h h1 (hQ.T hT hx)
theorem kJ_clears (hK : exK t) (hJ : lwJ xs t V A P S) (hQ : hqJ xs t Q (aClears S)) : Call (d + 20) 47 [.ref 3] (t, V, A, P) Q := by
  obtain ⟨e, h, hT, hx⟩ := hJ
  exact k_clears (d := d + 17) hK h (hQ.T hT hx)
theorem kJ_clear (hK : exK t) (hJ : lwJ xs t V A P S) (hQ : hqJ xs t Q (aClear S)) : Call (d + 20) 42 [.ref 3] (t, V, A, P) Q := by
  obtain ⟨e, h, hT, hx⟩ := hJ
  exact k_clear (d := d + 19) hK h (hQ.T hT hx)
theorem kJ_type {c : Int} (hK : exK t) (hJ : lwJ xs t V A P S) (h1 : -2147483648 ≤ c ∧ c < 2147483648) (hQ : hqJ xs t Q (aType S c)) : Call (d + 20) 41 [.ref 3, .int (iI c)] (t, V, A, P) Q := by
  obtain ⟨e, h, hT, hx⟩ := hJ
  exact k_type (d := d + 19) hK h h1 (hQ.T hT hx)
theorem kJ_flips {b : Int} (hK : exK t) (hJ : lwJ xs t V A P S) (h1 : -2147483648 ≤ b ∧ b < 2147483648) (hQ : hqJ xs t Q (aFlips S b)) : Call (d + 20) 46 [.ref 3, .int (iI b)] (t, V, A, P) Q := by
  obtain ⟨e, h, hT, hx⟩ := hJ
  exact k_flips (d := d + 16) hK h h1 (hQ.T hT hx)
theorem kJ_undo (hK : exK t) (hJ : lwJ xs t V A P S) (hQ : hqJ xs t Q (aUndo S)) : Call (d + 20) 48 [.ref 3] (t, V, A, P) Q := by
  obtain ⟨e, h, hT, hx⟩ := hJ
  exact k_undo (d := d + 18) hK h (hQ.T hT hx)
theorem kJ_keep {i : Int} (hK : exK t) (hJ : lwJ xs t V A P S) (h1 : -2147483648 ≤ i ∧ i < 2147483648) (hQ : hqJ xs t Q (aKeep S i)) : Call (d + 20) 58 [.ref 3, .int (iI i)] (t, V, A, P) Q := by
  obtain ⟨e, h, hT, hx⟩ := hJ
  exact k_keep (d := d + 18) hK h h1 (hQ.T hT hx)
theorem kJ_back {i : Int} (hK : exK t) (hJ : lwJ xs t V A P S) (h1 : -2147483648 ≤ i ∧ i < 2147483648) (hQ : hqJ xs t Q (aBack S i)) : Call (d + 20) 59 [.ref 3, .int (iI i)] (t, V, A, P) Q := by
  obtain ⟨e, h, hT, hx⟩ := hJ
  exact k_back (d := d + 18) hK h h1 (hQ.T hT hx)
theorem kJ_tells (hK : exK t) (hJ : lwJ xs t V A P S) (hQ : hqJ xs t Q (aTells S)) : Call (d + 20) 43 [.ref 3] (t, V, A, P) Q := by
  obtain ⟨e, h, hT, hx⟩ := hJ
  exact k_tells (d := d + 14) hK hT h (hQ.T hT hx)
end
