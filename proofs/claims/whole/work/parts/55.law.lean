/-! THE LAW: what lies between two calls -/
section
variable {d : Nat} {t : mL} {V : Nat → Nat → Value} {A : Nat → Nat → Int32} {P : Nat → Nat → Option Nat} {μ : mM} {Q : Option Value → mM → Prop} {S : aS} {e : Nat → Nat} {g : Nat → Int}
theorem RX.frm {V' : Nat → Nat → Value} {A' : Nat → Nat → Int32} (h : RX V A P S e) (hV : ∀ a, a < 62 → V' a = V a) (hA : ∀ a, a < 62 → A' a = A a) : RX V' A' P S e := by
  have hul := h.ul
  refine ⟨by rw [hV 3 (by omega)]; exact h.ob, wiH_eq h.wi (hV _ (by omega)) (hA _ (by omega)) (hA _ (by omega)) (hA _ (by omega)), h.wo, h.ul, h.ep, h.ei, fun j hj => ?_, fun i hi => ?_, h.ip, fun j hj => ?_, fun i hi => imH_eq (h.im i hi) (hV _ (by omega)) (by rw [hA _ (by omega)]) (hA _ (by omega)) (hA _ (by omega)) (hA _ (by omega)), h.tl, fun i hi => by rw [hA _ (by omega)]; exact h.tx i hi, scr_eq h.sc (fun a ha => hV a (by omega)), h.op⟩
  · rw [hV _ (by omega)]; exact h.er j hj
  · have := h.ep i (by omega)
    exact ⟨wiH_eq (h.ew i hi).1 (hV _ (by omega)) (hA _ (by omega)) (hA _ (by omega)) (hA _ (by omega)), (h.ew i hi).2⟩
  · rw [hV _ (by omega)]; exact h.ir j hj
/-- between two calls: the class and the model stand for one state, the tables and the script lie there -/
def lwI (xs : Nat → Int32) (t : mL) (V : Nat → Nat → Value) (A : Nat → Nat → Int32) (P : Nat → Nat → Option Nat) : Prop := ∃ (S : aS) (e : Nat → Nat) (g : Nat → Int), RX V A P S e ∧ V 62 = mdR g ∧ RM g A S ∧ tabs t A ∧ ∀ j, A 2 j = xs j
theorem lw_mid {V' : Nat → Nat → Value} {A' : Nat → Nat → Int32} (h : fr V V' A A') (hv : V 62 = mdR g) (hr : RM g A S) : V' = up1 V' 62 (mdR g) ∧ RM g A' S ∧ A' 2 = A 2 := by
  refine ⟨?_, hr.keep' rfl rfl rfl (fun a h1 _ _ => h.2 a (by omega)), h.2 2 (by omega)⟩
  have e : V' 62 = mdR g := (h.1 62 (by omega)).trans hv
  rw [← e]
  exact (up1_self V' 62).symm
theorem lw_end {xs : Nat → Int32} {V' : Nat → Nat → Value} {A' A2 : Nat → Nat → Int32} {P' : Nat → Nat → Option Nat} {e' : Nat → Nat} {S' : aS} {g' : Nat → Int} (hT : tabs t A) (hs : ∀ j, A 2 j = xs j) (h1 : RX V' A' P' S' e') (h2 : fr V V' A A') (r1 : RM g' A2 S') (r2 : ∀ a, a < 62 → A2 a = A' a) : lwI xs t (up1 V' 62 (mdR g')) A2 P' := by
  refine ⟨S', e', g', h1.frm (fun a ha => up1_ne (by omega)) r2, up1_same _ _ _, r1, ?_, fun j => ?_⟩
  · obtain ⟨q1, q2, q3, q4, q5, q6⟩ := h2.tabs hT
    exact ⟨q1, q2, q3, q4, fun j => by rw [r2 0 (by omega)]; exact q5 j, fun j => by rw [r2 1 (by omega)]; exact q6 j⟩
  · rw [r2 2 (by omega), h2.2 2 (by omega)]; exact hs j
-- the questions, in the form of the calls that change
theorem kq_form {k f : Int} (hK : exK t) (hT : tabs t A) (h : RX V A P S e) (h1 : -2147483648 ≤ k ∧ k < 2147483648) (h2 : -2147483648 ≤ f ∧ f < 2147483648) (hQ : hqT t V A Q (aForm k f, S)) : Call 40 50 [.ref 3, .int (iI k), .int (iI f)] (t, V, A, P) Q := by
  rw [show (40 : Nat) = 37 + 3 from rfl, k_form hT h1 h2]
  exact hQ V A P e h fr.rf
theorem kq_bit {b : Int} (hK : exK t) (hT : tabs t A) (h : RX V A P S e) (h1 : -2147483648 ≤ b ∧ b < 2147483648) (hQ : hqT t V A Q (aBit S.X b, S)) : Call 40 51 [.ref 3, .int (iI b)] (t, V, A, P) Q := by
  rw [show (40 : Nat) = 36 + 4 from rfl, k_bit hK h h1]
  exact hQ V A P e h fr.rf
theorem kq_word {b : Int} (hK : exK t) (hT : tabs t A) (h : RX V A P S e) (h1 : -2147483648 ≤ b ∧ b < 2147483648) (hQ : hqT t V A Q (aWord S.X b, S)) : Call 40 52 [.ref 3, .int (iI b)] (t, V, A, P) Q := by
  rw [show (40 : Nat) = 39 + 1 from rfl, k_word hK h h1]
  exact hQ V A P e h fr.rf
theorem kq_recent {b : Int} (hK : exK t) (hT : tabs t A) (h : RX V A P S e) (h1 : -2147483648 ≤ b ∧ b < 2147483648) (hQ : hqT t V A Q (aRecent S.X b, S)) : Call 40 53 [.ref 3, .int (iI b)] (t, V, A, P) Q := by
  rw [show (40 : Nat) = 38 + 2 from rfl, k_recent hK h h1]
  exact hQ V A P e h fr.rf
theorem kq_piece {f u p w : Int} (hK : exK t) (hT : tabs t A) (h : RX V A P S e) (h1 : -2147483648 ≤ f ∧ f < 2147483648) (h2 : -2147483648 ≤ u ∧ u < 2147483648) (h3 : -2147483648 ≤ p ∧ p < 2147483648) (h4 : -2147483648 ≤ w ∧ w < 2147483648) (hQ : hqT t V A Q (aPiece S.X f u p w, S)) : Call 40 54 [.ref 3, .int (iI f), .int (iI u), .int (iI p), .int (iI w)] (t, V, A, P) Q := by
  exact k_piece hK hT h h1 h2 h3 h4 (fun V' A' q => hQ V' A' P e (h.fq q) q.fr)
theorem kq_read {f u w : Int} (hK : exK t) (hT : tabs t A) (h : RX V A P S e) (h1 : -2147483648 ≤ f ∧ f < 2147483648) (h2 : -2147483648 ≤ u ∧ u < 2147483648) (h3 : -2147483648 ≤ w ∧ w < 2147483648) (hQ : hqT t V A Q (aRead S.X f u w, S)) : Call 40 55 [.ref 3, .int (iI f), .int (iI u), .int (iI w)] (t, V, A, P) Q := by
  exact k_read hK hT h h1 h2 h3 (fun V' A' q => hQ V' A' P e (h.fq q) q.fr)
theorem kq_cuts {k : Int} (hK : exK t) (hT : tabs t A) (h : RX V A P S e) (h1 : -2147483648 ≤ k ∧ k < 2147483648) (hQ : hqT t V A Q (aCuts S.X k, S)) : Call 40 56 [.ref 3, .int (iI k)] (t, V, A, P) Q := by
  exact k_cuts hK hT h h1 (fun V' A' q => hQ V' A' P e (h.fq q) q.fr)
theorem kq_level {x w : Int} (hK : exK t) (hT : tabs t A) (h : RX V A P S e) (h1 : -2147483648 ≤ x ∧ x < 2147483648) (h2 : -2147483648 ≤ w ∧ w < 2147483648) (hQ : hqT t V A Q (aLevel S.X x w, S)) : Call 40 57 [.ref 3, .int (iI x), .int (iI w)] (t, V, A, P) Q := by
  exact k_level hK h h1 h2 (fun V' q => hQ V' A P e (h.fq q) q.fr)
theorem kq_weight {a : Int} (hK : exK t) (hT : tabs t A) (h : RX V A P S e) (h1 : -2147483648 ≤ a ∧ a < 2147483648) (hQ : hqT t V A Q (aWeight S.X a, S)) : Call 40 59 [.ref 3, .int (iI a)] (t, V, A, P) Q := by
  rw [show (40 : Nat) = 36 + 4 from rfl, k_weight hK h h1]
  exact hQ _ A P e (h.fq (fq_29 h.sc)) (fq_29 h.sc).fr
theorem kq_count {w : Int} (hK : exK t) (hT : tabs t A) (h : RX V A P S e) (h1 : -2147483648 ≤ w ∧ w < 2147483648) (hQ : hqT t V A Q (aCount S w, S)) : Call 40 62 [.ref 3, .int (iI w)] (t, V, A, P) Q := by
  exact k_count hK h h1 (fun V' q => hQ V' A P e (h.fq q) q.fr)
theorem kq_evenest {n i : Int} (hK : exK t) (hT : tabs t A) (h : RX V A P S e) (h1 : -2147483648 ≤ n ∧ n < 2147483648) (h2 : -2147483648 ≤ i ∧ i < 2147483648) (hQ : hqT t V A Q ((aEven S.X (A 21) n i).toInt, S)) : Call 40 58 [.ref 3, .int (iI n), .int (iI i)] (t, V, A, P) Q := by
  refine k_evenest hK hT h h1 h2 (fun V' A' q => ?_)
  have := hQ V' A' P e (h.fq q) q.fr
  rwa [iI_self] at this
theorem kmq_evenest {n i : Int} (b : Nat → Int32) (hK : mK t) (hS : wfS S) (h : RM g A S) (h1 : -2147483648 ≤ n ∧ n < 2147483648) (h2 : -2147483648 ≤ i ∧ i < 2147483648) (hQ : hqM t V A P Q ((aEven S.X b n i).toInt, S)) : Call 40 121 [.ref 62, .int (iI n), .int (iI i)] (t, up1 V 62 (mdR g), A, P) Q := by
  refine km_evenest (d := 33) b hK hS h h1 h2 (fun g' A' q1 q2 => ?_)
  have := hQ g' A' q1 q2
  rwa [iI_self] at this
end
