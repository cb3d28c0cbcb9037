/-! BLAMED: the class's way and the model's -/
theorem pcN_pcB (l : List Int) (at' : Int) : pcN l at' = pcB (btA l) at' := rfl
theorem gB_none {X : aW} {f : Int} (hf : 0 ≤ f) : gB X (-9) f = rg X f := by
  funext p
  have e : ∀ j : Int, 0 ≤ j → bB X (-9) (f + 6 * (p : Int) + j) = btA X.2 (f + 6 * (p : Int) + j) := fun j hj => by unfold bB; rw [if_neg (by omega)]
  show pcB (bB X (-9)) (f + 6 * (p : Int)) = pcN X.2 (f + 6 * (p : Int))
  unfold pcB pcN
  rw [e 0 (by omega), e 1 (by omega), e 2 (by omega), e 3 (by omega), e 4 (by omega), e 5 (by omega)]
theorem tn_pc {x0 x1 x2 x3 x4 x5 : Int} (h0 : 0 ≤ x0 ∧ x0 ≤ 1) (h1 : 0 ≤ x1 ∧ x1 ≤ 1) (h2 : 0 ≤ x2 ∧ x2 ≤ 1) (h3 : 0 ≤ x3 ∧ x3 ≤ 1) (h4 : 0 ≤ x4 ∧ x4 ≤ 1) (h5 : 0 ≤ x5 ∧ x5 ≤ 1) :
    tn (2 * (2 * (2 * (2 * (2 * (2 * 0 + x0) + x1) + x2) + x3) + x4) + x5) 5 = 2 * (2 * (2 * (2 * (2 * (2 * 0 + (1 - x0)) + x1) + x2) + x3) + x4) + x5 ∧
    tn (2 * (2 * (2 * (2 * (2 * (2 * 0 + x0) + x1) + x2) + x3) + x4) + x5) 4 = 2 * (2 * (2 * (2 * (2 * (2 * 0 + x0) + (1 - x1)) + x2) + x3) + x4) + x5 ∧
    tn (2 * (2 * (2 * (2 * (2 * (2 * 0 + x0) + x1) + x2) + x3) + x4) + x5) 3 = 2 * (2 * (2 * (2 * (2 * (2 * 0 + x0) + x1) + (1 - x2)) + x3) + x4) + x5 ∧
    tn (2 * (2 * (2 * (2 * (2 * (2 * 0 + x0) + x1) + x2) + x3) + x4) + x5) 2 = 2 * (2 * (2 * (2 * (2 * (2 * 0 + x0) + x1) + x2) + (1 - x3)) + x4) + x5 ∧
    tn (2 * (2 * (2 * (2 * (2 * (2 * 0 + x0) + x1) + x2) + x3) + x4) + x5) 1 = 2 * (2 * (2 * (2 * (2 * (2 * 0 + x0) + x1) + x2) + x3) + (1 - x4)) + x5 ∧
    tn (2 * (2 * (2 * (2 * (2 * (2 * 0 + x0) + x1) + x2) + x3) + x4) + x5) 0 = 2 * (2 * (2 * (2 * (2 * (2 * 0 + x0) + x1) + x2) + x3) + x4) + (1 - x5) := by
  unfold tn
  simp only [show (2 : Int) ^ 5 = 32 from rfl, show (2 : Int) ^ 4 = 16 from rfl, show (2 : Int) ^ 3 = 8 from rfl, show (2 : Int) ^ 2 = 4 from rfl, show (2 : Int) ^ 1 = 2 from rfl, show (2 : Int) ^ 0 = 1 from rfl]
  refine ⟨?_, ?_, ?_, ?_, ?_, ?_⟩ <;> (split <;> omega)
/-- a bit turned, seen piece by piece -/
theorem gB_at {X : aW} {f : Int} {p i q : Nat} (hi : i < 6) : gB X (f + ((6 * p + i : Nat) : Int)) f q = if q = p then tn (rg X f p) (5 - i) else rg X f q := by
  by_cases c : q = p
  · subst c
    rw [if_pos rfl]
    have h := tn_pc (btA_b X.2 (f + 6 * (q : Int) + 0)) (btA_b X.2 (f + 6 * (q : Int) + 1)) (btA_b X.2 (f + 6 * (q : Int) + 2)) (btA_b X.2 (f + 6 * (q : Int) + 3)) (btA_b X.2 (f + 6 * (q : Int) + 4)) (btA_b X.2 (f + 6 * (q : Int) + 5))
    have e1 : ∀ j : Int, 0 ≤ j → j ≠ (i : Int) → bB X (f + ((6 * q + i : Nat) : Int)) (f + 6 * (q : Int) + j) = btA X.2 (f + 6 * (q : Int) + j) := fun j h0 hj => by unfold bB; rw [if_neg (by omega)]
    have e2 : ∀ j : Int, j = (i : Int) → bB X (f + ((6 * q + i : Nat) : Int)) (f + 6 * (q : Int) + j) = 1 - btA X.2 (f + 6 * (q : Int) + j) := fun j hj => by unfold bB; rw [if_pos (by omega)]
    show pcB (bB X (f + ((6 * q + i : Nat) : Int))) (f + 6 * (q : Int)) = tn (pcN X.2 (f + 6 * (q : Int))) (5 - i)
    unfold pcB pcN
    have hi' : i = 0 ∨ i = 1 ∨ i = 2 ∨ i = 3 ∨ i = 4 ∨ i = 5 := by omega
    rcases hi' with rfl | rfl | rfl | rfl | rfl | rfl
    · rw [e2 0 (by omega), e1 1 (by omega) (by omega), e1 2 (by omega) (by omega), e1 3 (by omega) (by omega), e1 4 (by omega) (by omega), e1 5 (by omega) (by omega)]; exact h.1.symm
    · rw [e1 0 (by omega) (by omega), e2 1 (by omega), e1 2 (by omega) (by omega), e1 3 (by omega) (by omega), e1 4 (by omega) (by omega), e1 5 (by omega) (by omega)]; exact h.2.1.symm
    · rw [e1 0 (by omega) (by omega), e1 1 (by omega) (by omega), e2 2 (by omega), e1 3 (by omega) (by omega), e1 4 (by omega) (by omega), e1 5 (by omega) (by omega)]; exact h.2.2.1.symm
    · rw [e1 0 (by omega) (by omega), e1 1 (by omega) (by omega), e1 2 (by omega) (by omega), e2 3 (by omega), e1 4 (by omega) (by omega), e1 5 (by omega) (by omega)]; exact h.2.2.2.1.symm
    · rw [e1 0 (by omega) (by omega), e1 1 (by omega) (by omega), e1 2 (by omega) (by omega), e1 3 (by omega) (by omega), e2 4 (by omega), e1 5 (by omega) (by omega)]; exact h.2.2.2.2.1.symm
    · rw [e1 0 (by omega) (by omega), e1 1 (by omega) (by omega), e1 2 (by omega) (by omega), e1 3 (by omega) (by omega), e1 4 (by omega) (by omega), e2 5 (by omega)]; exact h.2.2.2.2.2.symm
  · rw [if_neg c]
    have e : ∀ j : Int, 0 ≤ j → j < 6 → bB X (f + ((6 * p + i : Nat) : Int)) (f + 6 * (q : Int) + j) = btA X.2 (f + 6 * (q : Int) + j) := fun j h0 h1 => by unfold bB; rw [if_neg (by omega)]
    show pcB (bB X (f + ((6 * p + i : Nat) : Int))) (f + 6 * (q : Int)) = pcN X.2 (f + 6 * (q : Int))
    unfold pcB pcN
    rw [e 0 (by omega) (by omega), e 1 (by omega) (by omega), e 2 (by omega) (by omega), e 3 (by omega) (by omega), e 4 (by omega) (by omega), e 5 (by omega) (by omega)]
theorem fsF_none (G : Nat → Int) (u : Int) : ∀ (k p : Nat), fsF G u (-9) p k = -9 ↔ ∀ q, p ≤ q → q < p + k → brG G u q = 0 := by
  intro k
  induction k with
  | zero => intro p; exact ⟨fun _ q h1 h2 => by omega, fun _ => rfl⟩
  | succ k ih =>
    intro p
    simp only [fsF]
    by_cases c : brG G u p = 0
    · rw [if_pos c, ih (p + 1)]
      constructor
      · intro h q h1 h2
        by_cases e : q = p
        · subst e; exact c
        · exact h q (by omega) (by omega)
      · intro h q h1 h2
        exact h q (by omega) (by omega)
    · rw [if_neg c, if_pos trivial, fsF_stay _ _ _ (by omega)]
      constructor
      · intro h; omega
      · intro h; exact absurd (h p (by omega) (by omega)) c
theorem fsF_some (G : Nat → Int) (u : Int) : ∀ (k p : Nat), ¬ fsF G u (-9) p k = -9 → ∃ r : Nat, fsF G u (-9) p k = r ∧ p ≤ r ∧ r < p + k ∧ ¬ brG G u r = 0 ∧ ∀ q, p ≤ q → q < r → brG G u q = 0 := by
  intro k
  induction k with
  | zero => intro p h; exact absurd rfl h
  | succ k ih =>
    intro p h
    simp only [fsF] at h ⊢
    by_cases c : brG G u p = 0
    · rw [if_pos c] at h ⊢
      obtain ⟨r, h1, h2, h3, h4, h5⟩ := ih (p + 1) h
      refine ⟨r, h1, by omega, by omega, h4, fun q q1 q2 => ?_⟩
      by_cases e : q = p
      · subst e; exact c
      · exact h5 q (by omega) q2
    · rw [if_neg c, if_pos trivial, fsF_stay _ _ _ (by omega)]
      exact ⟨p, rfl, Nat.le_refl _, by omega, c, fun q q1 q2 => by omega⟩
theorem okR_wk (G : Nat → Int) (u : Int) : ∀ (k q : Nat), okR G (wkG G u q) q k = true ↔ ∀ r, q ≤ r → r < q + k → brG G u r = 0 := by
  intro k
  induction k with
  | zero => intro q; exact ⟨fun _ r h1 h2 => by omega, fun _ => rfl⟩
  | succ k ih =>
    intro q
    have e : okR G (wkG G u q) q (k + 1) = (decide (brG G u q = 0) && okR G (wkG G u (q + 1)) (q + 1) k) := rfl
    rw [e, Bool.and_eq_true, decide_eq_true_eq, ih (q + 1)]
    constructor
    · intro h r h1 h2
      by_cases c : r = q
      · subst c; exact h.1
      · exact h.2 r (by omega) (by omega)
    · intro h
      exact ⟨h q (by omega) (by omega), fun r h1 h2 => h r (by omega) (by omega)⟩
theorem okR_cong (G H : Nat → Int) : ∀ (k q : Nat) (S : Int × wS), (∀ r, q ≤ r → G r = H r) → okR G S q k = okR H S q k := by
  intro k
  induction k with
  | zero => intro q S _; rfl
  | succ k ih =>
    intro q S h
    simp only [okR]
    rw [h q (Nat.le_refl _), ih (q + 1) _ (fun r hr => h r (by omega))]
theorem wkG_cong (G H : Nat → Int) (u : Int) : ∀ q : Nat, (∀ r, r < q → G r = H r) → wkG G u q = wkG H u q := by
  intro q
  induction q with
  | zero => intro _; rfl
  | succ q ih =>
    intro h
    show (tkG (wkG G u q) (G q)).1 = (tkG (wkG H u q) (H q)).1
    rw [ih (fun r hr => h r (by omega)), h q (by omega)]
/-- no breach, one bit turned -/
theorem blame_ok {X : aW} {f u : Int} {m p i : Nat} (hi : i < 6) (hp : p < m) : fsF (gB X (f + ((6 * p + i : Nat) : Int)) f) u (-9) 0 m = -9 ↔ (∀ q, q < p → brG (rg X f) u q = 0) ∧ rgt (rg X f) m (wkG (rg X f) u p) p i = true := by
  obtain ⟨G, hG⟩ : ∃ G, G = gB X (f + ((6 * p + i : Nat) : Int)) f := ⟨_, rfl⟩
  rw [← hG]
  have hat : ∀ q, G q = if q = p then tn (rg X f p) (5 - i) else rg X f q := fun q => by rw [hG]; exact gB_at hi
  have hlo : ∀ q, q ≤ p → wkG G u q = wkG (rg X f) u q := fun q hq => wkG_cong _ _ _ q (fun r hr => by rw [hat, if_neg (by omega)])
  have hbr : ∀ q, q < p → brG G u q = brG (rg X f) u q := fun q hq => by
    show (tkG (wkG G u q) (G q)).2 = (tkG (wkG (rg X f) u q) (rg X f q)).2
    rw [hlo q (by omega), hat, if_neg (by omega)]
  have hbp : brG G u p = (tkG (wkG (rg X f) u p) (tn (rg X f p) (5 - i))).2 := by
    show (tkG (wkG G u p) (G p)).2 = _
    rw [hlo p (by omega), hat, if_pos rfl]
  have hwp : wkG G u (p + 1) = (tkG (wkG (rg X f) u p) (tn (rg X f p) (5 - i))).1 := by
    show (tkG (wkG G u p) (G p)).1 = _
    rw [hlo p (by omega), hat, if_pos rfl]
  have hrg : rgt (rg X f) m (wkG (rg X f) u p) p i = (decide (brG G u p = 0) && okR G (wkG G u (p + 1)) (p + 1) (m - (p + 1))) := by
    unfold rgt
    rw [hbp, hwp]
    congr 1
    exact okR_cong _ _ _ _ _ (fun r hr => by rw [hat, if_neg (by omega)])
  rw [fsF_none, hrg, Bool.and_eq_true, decide_eq_true_eq, okR_wk]
  constructor
  · intro h
    exact ⟨fun q hq => by rw [← hbr q hq]; exact h q (by omega) (by omega), h p (by omega) (by omega), fun r h1 h2 => h r (by omega) (by omega)⟩
  · intro h q _ hq
    by_cases c : q < p
    · rw [hbr q c]; exact h.1 q c
    · by_cases c2 : q = p
      · subst c2; exact h.2.1
      · exact h.2.2 q (by omega) (by omega)
/-- the model's way: bit by bit -/
def blS (X : aW) (f u : Int) (m : Nat) : Nat → Int × Int
  | 0 => (0, -9)
  | n + 1 => if fsF (gB X (f + (n : Int)) f) u (-9) 0 m = -9 then ((blS X f u m n).1 + 1, if (blS X f u m n).2 = -9 then f + n else (blS X f u m n).2) else blS X f u m n
theorem blS_s (X : aW) (f u : Int) (m n : Nat) : blS X f u m (n + 1) = if fsF (gB X (f + (n : Int)) f) u (-9) 0 m = -9 then ((blS X f u m n).1 + 1, if (blS X f u m n).2 = -9 then f + n else (blS X f u m n).2) else blS X f u m n := rfl
theorem blS_I {X : aW} {f u : Int} {m p : Nat} (hp : p < m) (hb : ∀ q, q < p → brG (rg X f) u q = 0) : ∀ (k i : Nat), i + k ≤ 6 → blI (rg X f) m f (wkG (rg X f) u p) p i k (blS X f u m (6 * p + i)) = blS X f u m (6 * p + i + k) := by
  intro k
  induction k with
  | zero => intro i _; rfl
  | succ k ih =>
    intro i hi
    have h := blame_ok (X := X) (f := f) (u := u) (m := m) (p := p) (i := i) (by omega) hp
    have es : blS X f u m (6 * p + i + 1) = if fsF (gB X (f + ((6 * p + i : Nat) : Int)) f) u (-9) 0 m = -9 then ((blS X f u m (6 * p + i)).1 + 1, if (blS X f u m (6 * p + i)).2 = -9 then f + ((6 * p + i : Nat) : Int) else (blS X f u m (6 * p + i)).2) else blS X f u m (6 * p + i) := rfl
    have := ih (i + 1) (by omega)
    rw [show 6 * p + i + (k + 1) = 6 * p + (i + 1) + k by omega, ← this]
    show blI (rg X f) m f (wkG (rg X f) u p) p (i + 1) k _ = _
    congr 1
    rw [show 6 * p + (i + 1) = 6 * p + i + 1 by omega, es]
    by_cases c : rgt (rg X f) m (wkG (rg X f) u p) p i = true
    · rw [if_pos c, if_pos (h.2 ⟨hb, c⟩), show f + (p : Int) * 6 + (i : Int) = f + ((6 * p + i : Nat) : Int) by omega]
    · rw [if_neg c, if_neg (fun q => c (h.1 q).2)]
theorem blS_O {X : aW} {f u : Int} {m : Nat} : ∀ (k p : Nat), p + k ≤ m → (∀ q, q + 1 < p + k → brG (rg X f) u q = 0) → blO (rg X f) u m f p k (blS X f u m (6 * p)) = blS X f u m (6 * (p + k)) := by
  intro k
  induction k with
  | zero => intro p _ _; rfl
  | succ k ih =>
    intro p hp hb
    show blO (rg X f) u m f (p + 1) k (blI (rg X f) m f (wkG (rg X f) u p) p 0 6 (blS X f u m (6 * p))) = _
    have h := blS_I (X := X) (f := f) (u := u) (m := m) (p := p) (by omega) (fun q hq => hb q (by omega)) 6 0 (by omega)
    rw [Nat.add_zero] at h
    rw [h, show 6 * p + 6 = 6 * (p + 1) by omega, ih (p + 1) (by omega) (fun q hq => hb q (by omega)), show p + 1 + k = p + (k + 1) by omega]
theorem blS_stop {X : aW} {f u : Int} {m r : Nat} (hr : r < m) (hb : ¬ brG (rg X f) u r = 0) : ∀ n : Nat, 6 * (r + 1) ≤ n → n ≤ 6 * m → blS X f u m n = blS X f u m (6 * (r + 1)) := by
  intro n h1 h2
  obtain ⟨j, rfl⟩ : ∃ j, n = 6 * (r + 1) + j := ⟨n - 6 * (r + 1), by omega⟩
  clear h1
  induction j with
  | zero => rfl
  | succ j ih =>
    rw [← ih (by omega)]
    have e : 6 * (r + 1) + j = 6 * ((6 * (r + 1) + j) / 6) + (6 * (r + 1) + j) % 6 := by omega
    have h := blame_ok (X := X) (f := f) (u := u) (m := m) (p := (6 * (r + 1) + j) / 6) (i := (6 * (r + 1) + j) % 6) (by omega) (by omega)
    rw [← e] at h
    rw [show 6 * (r + 1) + (j + 1) = (6 * (r + 1) + j) + 1 by omega, blS_s, if_neg (fun q => hb ((h.1 q).1 r (by omega)))]
/-- the two ways meet -/
theorem blS_all {X : aW} {f u : Int} {m : Nat} : blS X f u m (6 * m) = blO (rg X f) u m f 0 (if fsF (rg X f) u (-9) 0 m = -9 then m else (fsF (rg X f) u (-9) 0 m).toNat + 1) (0, -9) := by
  by_cases c : fsF (rg X f) u (-9) 0 m = -9
  · rw [if_pos c]
    have hb := (fsF_none (rg X f) u m 0).1 c
    have := blS_O (X := X) (f := f) (u := u) (m := m) m 0 (by omega) (fun q hq => hb q (by omega) (by omega))
    rw [Nat.zero_add] at this
    exact this.symm
  · rw [if_neg c]
    obtain ⟨r, h1, h2, h3, h4, h5⟩ := fsF_some (rg X f) u m 0 c
    rw [h1, Int.toNat_natCast]
    have := blS_O (X := X) (f := f) (u := u) (m := m) (r + 1) 0 (by omega) (fun q hq => h5 q (by omega) (by omega))
    rw [Nat.zero_add] at this
    rw [blS_stop (by omega) h4 (6 * m) (by omega) (by omega)]
    exact this.symm
theorem blS_inv {X : aW} {f u : Int} {m : Nat} (hf : 0 ≤ f) : ∀ n : Nat, (0 ≤ (blS X f u m n).1 ∧ (blS X f u m n).1 ≤ n) ∧ ((blS X f u m n).1 = 0 ↔ (blS X f u m n).2 = -9) ∧ ((blS X f u m n).2 = -9 ∨ (f ≤ (blS X f u m n).2 ∧ (blS X f u m n).2 < f + n)) := by
  intro n
  induction n with
  | zero => exact ⟨⟨by show (0 : Int) ≤ 0; omega, by show (0 : Int) ≤ 0; omega⟩, ⟨fun _ => rfl, fun _ => rfl⟩, Or.inl rfl⟩
  | succ n ih =>
    simp only [blS]
    generalize blS X f u m n = z at *
    split
    · simp only
      split <;> omega
    · omega
