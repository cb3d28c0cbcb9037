/-! ONE BIT TURNED: it is blamed -/
theorem tn_tn : ∀ j : Nat, j < 6 → ∀ n : Nat, n < 64 → tn (tn n j) j = n ∧ dfI (tn n j) n = 1 := by decide +kernel
theorem tn_v {n : Int} {j : Nat} (h0 : 0 ≤ n ∧ n < 64) (hj : j < 6) : tn (tn n j) j = n ∧ dfI (tn n j) n = 1 := by
  have := tn_tn j hj n.toNat (by omega)
  rwa [Int.toNat_of_nonneg h0.1] at this
theorem tX_at {X : aW} {b : Int} (hX : wf X) (h0 : 0 ≤ b) (h1 : b < X.1.length * 6) (q : Nat) : (tX X b).2.getD q 0 = if q = (b / 6).toNat then tn (X.2.getD (b / 6).toNat 0) (5 - b % 6).toNat else X.2.getD q 0 := by
  have hl := hX.2.1
  show (X.2.set (b / 6).toNat _).getD q 0 = _
  rw [gset]
  by_cases c : q = (b / 6).toNat
  · rw [if_pos ⟨c, by omega⟩, if_pos c]
  · rw [if_neg (fun z => c z.1), if_neg c]
/-- turned twice it is as it was -/
theorem tX_tX {X : aW} {b : Int} (hX : wf X) (h0 : 0 ≤ b) (h1 : b < X.1.length * 6) : tX (tX X b) b = X := by
  have hl := hX.2.1
  have hv := hX.2.2.2 (b / 6).toNat (by omega)
  have h2 := tX_at hX h0 h1 (b / 6).toNat
  rw [if_pos rfl] at h2
  have h3 : tX (tX X b) b = (X.1, (X.2.set (b / 6).toNat (tn (X.2.getD (b / 6).toNat 0) (5 - b % 6).toNat)).set (b / 6).toNat (tn ((tX X b).2.getD (b / 6).toNat 0) (5 - b % 6).toNat)) := rfl
  rw [h3, h2, (tn_v hv (by omega)).1, List.set_set]
  have h4 : X.2.set (b / 6).toNat (X.2.getD (b / 6).toNat 0) = X.2 := by
    apply List.ext_getElem?
    intro i
    rw [List.getElem?_set]
    by_cases c : (b / 6).toNat = i
    · subst c
      rw [if_pos rfl, if_pos (by omega), List.getD_eq_getElem?_getD, List.getElem?_eq_getElem (by omega)]
      rfl
    · rw [if_neg c]
  rw [h4]
theorem sumI_cong {f g : Int → Int} : ∀ (m : Nat) (k : Int), (∀ j : Nat, j < m → f (k + j) = g (k + j)) → sumI f k m = sumI g k m := by
  intro m
  induction m with
  | zero => intro k _; rfl
  | succ m ih =>
    intro k h
    show f k + sumI f (k + 1) m = g k + sumI g (k + 1) m
    have h0 := h 0 (by omega)
    rw [show k + ((0 : Nat) : Int) = k by omega] at h0
    rw [h0, ih (k + 1) (fun j hj => by have := h (j + 1) (by omega); rwa [show k + ((j + 1 : Nat) : Int) = k + 1 + (j : Int) by omega] at this)]
theorem sumI_1 : ∀ (m p : Nat) (k : Int), p < m → sumI (fun i => if i = k + p then 1 else 0) k m = 1 := by
  intro m
  induction m with
  | zero => intro p k h; omega
  | succ m ih =>
    intro p k h
    show (if k = k + (p : Int) then 1 else 0) + sumI (fun i => if i = k + p then 1 else 0) (k + 1) m = 1
    cases p with
    | zero =>
      rw [if_pos (by omega)]
      have hz : sumI (fun i => if i = k + ((0 : Nat) : Int) then 1 else 0) (k + 1) m = sumI (fun _ => 0) (k + 1) m := sumI_cong m (k + 1) (fun j _ => by rw [if_neg (by omega)])
      have h0 : ∀ (m : Nat) (k : Int), sumI (fun _ => 0) k m = 0 := by
        intro m
        induction m with
        | zero => intro k; rfl
        | succ m ih => intro k; show (0 : Int) + sumI (fun _ => 0) (k + 1) m = 0; rw [ih]; rfl
      rw [hz, h0]
      rfl
    | succ p =>
      rw [if_neg (by omega)]
      have := ih p (k + 1) (by omega)
      rw [show k + ((p + 1 : Nat) : Int) = k + 1 + (p : Int) by omega, this]
      rfl
theorem turned_1 {S : aS} {b : Int} (hX : wf S.X) (hs : strt S.X) (h0 : 0 ≤ b) (h1 : b < S.X.1.length * 6) {U : List aW} {I : Nat → Option aW} {T : List Int} : aCount (aS.mk (tX S.X b) U I T) 3 = 1 := by
  show sumI (fun i => dfI ((tX S.X b).2.getD i.toNat 0) ((snt S.X.1).getD i.toNat 0)) 0 S.X.1.length = 1
  rw [← sumI_1 S.X.1.length (b / 6).toNat 0 (by omega)]
  refine sumI_cong _ _ (fun j hj => ?_)
  have hv := hX.2.2.2 j hj
  have hw := snt_b hX j hj
  have hj2 : S.X.2.getD j 0 = (snt S.X.1).getD j 0 := hs j hj
  rw [show ((0 : Int) + (j : Int)).toNat = j by omega, tX_at hX h0 h1 j]
  by_cases c : j = (b / 6).toNat
  · subst c
    rw [if_pos rfl, if_pos (by omega), ← hj2]
    exact (tn_v hv (by omega)).2
  · rw [if_neg c, if_neg (by omega), hj2]
    exact (dfI_v hw hw).2.2
/-- what a blame keeps: none yet, or one that was found -/
def blP (n : Int) (b : Int × Int) : Prop := 0 ≤ b.1 ∧ (b.2 = -9 ∨ (0 ≤ b.2 ∧ b.2 < n))
def blQ (z : Int) (b : Int × Int) : Prop := 1 ≤ b.1 ∧ 0 ≤ b.2 ∧ b.2 ≤ z
theorem blI_Q (g : Nat → Int) (m : Nat) (S : Int × wS) (p : Nat) {z : Int} : ∀ (k i : Nat) (b : Int × Int), blQ z b → blQ z (blI g m 0 S p i k b) := by
  intro k
  induction k with
  | zero => intro i b h; exact h
  | succ k ih =>
    intro i b h
    refine ih (i + 1) _ ?_
    unfold blQ at h ⊢
    split
    · rw [if_neg (by omega)]
      simp only
      omega
    · exact h
theorem blO_Q (g : Nat → Int) (u : Int) (m : Nat) {z : Int} : ∀ (k p : Nat) (b : Int × Int), blQ z b → blQ z (blO g u m 0 p k b) := by
  intro k
  induction k with
  | zero => intro p b h; exact h
  | succ k ih => intro p b h; exact ih (p + 1) _ (blI_Q _ _ _ _ _ _ _ h)
theorem blI_P (g : Nat → Int) (m : Nat) (S : Int × wS) (p : Nat) : ∀ (k i : Nat) (b : Int × Int), blP (6 * p + i) b → blP (6 * p + i + k) (blI g m 0 S p i k b) := by
  intro k
  induction k with
  | zero => intro i b h; rw [show 6 * (p : Int) + (i : Int) + ((0 : Nat) : Int) = 6 * (p : Int) + (i : Int) by omega]; exact h
  | succ k ih =>
    intro i b h
    have := ih (i + 1) (if rgt g m S p i = true then (b.1 + 1, if b.2 = -9 then 0 + p * 6 + i else b.2) else b) (by
      unfold blP at h ⊢
      split
      · split
        · simp only
          omega
        · simp only
          omega
      · omega)
    rw [show 6 * (p : Int) + ((i + 1 : Nat) : Int) + (k : Int) = 6 * (p : Int) + (i : Int) + ((k + 1 : Nat) : Int) by omega] at this
    exact this
theorem blI_hit (g : Nat → Int) (m : Nat) (S : Int × wS) (p i0 : Nat) (hr : rgt g m S p i0 = true) : ∀ (k i : Nat) (b : Int × Int), i ≤ i0 → i0 < i + k → blP (6 * p + i) b → blQ (6 * p + i0) (blI g m 0 S p i k b) := by
  intro k
  induction k with
  | zero => intro i b h1 h2; omega
  | succ k ih =>
    intro i b h1 h2 h
    by_cases c : i = i0
    · subst c
      refine blI_Q _ _ _ _ k (i + 1) _ ?_
      rw [if_pos hr]
      unfold blP at h
      unfold blQ
      split
      · simp only; omega
      · simp only; omega
    · refine ih (i + 1) _ (by omega) (by omega) ?_
      unfold blP at h ⊢
      split
      · split
        · simp only; omega
        · simp only; omega
      · omega
theorem blO_hit (g : Nat → Int) (u : Int) (m p0 i0 : Nat) (hi : i0 < 6) (hr : rgt g m (wkG g u p0) p0 i0 = true) : ∀ (k p : Nat) (b : Int × Int), p ≤ p0 → p0 < p + k → blP (6 * p) b → blQ (6 * p0 + i0) (blO g u m 0 p k b) := by
  intro k
  induction k with
  | zero => intro p b h1 h2; omega
  | succ k ih =>
    intro p b h1 h2 h
    by_cases c : p = p0
    · subst c
      refine blO_Q _ _ _ k (p + 1) _ ?_
      exact blI_hit g m (wkG g u p) p i0 hr 6 0 b (by omega) (by omega) (by simpa using h)
    · refine ih (p + 1) _ (by omega) (by omega) ?_
      have := blI_P g m (wkG g u p) p 6 0 b (by simpa using h)
      rw [show 6 * (p : Int) + ((0 : Nat) : Int) + ((6 : Nat) : Int) = 6 * ((p + 1 : Nat) : Int) by omega] at this
      exact this
/-- one bit turned: the FIRST isn't ahead of it, it is BLAMED, the lowest isn't behind it -/
theorem blame_sent {X : aW} {b : Int} (hX : wf X) (hs : strt X) (h0 : 0 ≤ b) (h1 : b < X.1.length * 6) : (rFi (tX X b) 0 0 = -9 ∨ b / 6 ≤ rFi (tX X b) 0 0) ∧ 1 ≤ (rBl (tX X b) 0 0).1 ∧ 0 ≤ (rBl (tX X b) 0 0).2 ∧ (rBl (tX X b) 0 0).2 ≤ b := by
  have hX' := wf_tX hX h0 h1
  obtain ⟨p, i, hi, hb⟩ : ∃ p i : Nat, i < 6 ∧ b = ((6 * p + i : Nat) : Int) := ⟨(b / 6).toNat, (b % 6).toNat, by omega, by omega⟩
  have hp : (b / 6).toNat = p := by omega
  have hi2 : (5 - b % 6).toNat = 5 - i := by omega
  have hpl : p < X.1.length := by omega
  have hl' : (tX X b).1.length = X.1.length := rfl
  obtain ⟨g, hg⟩ : ∃ g, g = rg (tX X b) 0 := ⟨_, rfl⟩
  have hgq : ∀ q, q < X.1.length → g q = if q = p then tn (sntG X p) (5 - i) else sntG X q := fun q hq => by
    rw [hg, rg_at hX' (by rw [hl']; exact hq), tX_at hX h0 h1, hp, hi2]
    by_cases c : q = p
    · rw [if_pos c, if_pos c, hs p hpl]
    · rw [if_neg c, if_neg c, hs q hq]
  have hw : ∀ q, q ≤ p → wkG g (-1) q = wkG (sntG X) (-1) q := fun q hq => wkG_cong _ _ _ q (fun r hr => by rw [hgq r (by omega), if_neg (by omega)])
  have hbr : ∀ q, q < p → brG g (-1) q = 0 := fun q hq => by
    show (tkG (wkG g (-1) q) (g q)).2 = 0
    rw [hw q (by omega), hgq q (by omega), if_neg (by omega)]
    exact (sent_ok hX X.1.length (Nat.le_refl _)).2 q (by omega)
  have hsn := snt_b hX p hpl
  have hback : tn (g p) (5 - i) = sntG X p := by
    rw [hgq p hpl, if_pos rfl]
    exact (tn_v hsn (by omega)).1
  have hm : (rm (tX X b) 0).toNat = X.1.length := by rw [rm_0, Int.toNat_natCast]; rfl
  have hrgt : rgt g X.1.length (wkG g (-1) p) p i = true := by
    unfold rgt
    rw [hback, hw p (Nat.le_refl _), Bool.and_eq_true, decide_eq_true_eq]
    refine ⟨(sent_ok hX X.1.length (Nat.le_refl _)).2 p hpl, ?_⟩
    have hk : ∀ (k q : Nat) (S : Int × wS), q + k ≤ X.1.length → p < q → S = wkG (sntG X) (-1) q → okR g S q k = true := by
      intro k
      induction k with
      | zero => intro q S _ _ _; rfl
      | succ k ih =>
        intro q S h2 h3 h4
        simp only [okR]
        rw [hgq q (by omega), if_neg (by omega), Bool.and_eq_true, decide_eq_true_eq, h4]
        exact ⟨(sent_ok hX X.1.length (Nat.le_refl _)).2 q (by omega), ih (q + 1) _ (by omega) (by omega) rfl⟩
    exact hk (X.1.length - (p + 1)) (p + 1) _ (by omega) (by omega) rfl
  have hfi : rFi (tX X b) 0 0 = fsF g (-1) (-9) 0 X.1.length := by
    show fsF (rg (tX X b) 0) (-1) (-9) 0 (rm (tX X b) 0).toNat = _
    rw [hm, hg]
  have hfi2 : rFi (tX X b) 0 0 = -9 ∨ (p : Int) ≤ rFi (tX X b) 0 0 := by
    rw [hfi]
    by_cases c : fsF g (-1) (-9) 0 X.1.length = -9
    · exact Or.inl c
    · obtain ⟨r, r1, r2, r3, r4, r5⟩ := fsF_some g (-1) X.1.length 0 c
      right
      rw [r1]
      by_cases c2 : r < p
      · exact absurd (hbr r c2) r4
      · omega
  refine ⟨?_, ?_⟩
  · rcases hfi2 with c | c
    · exact Or.inl c
    · right; omega
  · have e : rBl (tX X b) 0 0 = blO g (-1) X.1.length 0 0 (if rFi (tX X b) 0 0 = -9 then X.1.length else (rFi (tX X b) 0 0).toNat + 1) (0, -9) := by
      show blO (rg (tX X b) 0) (-1) (rm (tX X b) 0).toNat 0 0 (if rFi (tX X b) 0 0 = -9 then (rm (tX X b) 0).toNat else (rFi (tX X b) 0 0).toNat + 1) (0, -9) = _
      rw [hm, hg]
    have hq := blO_hit g (-1) X.1.length p i hi hrgt (if rFi (tX X b) 0 0 = -9 then X.1.length else (rFi (tX X b) 0 0).toNat + 1) 0 (0, -9) (by omega) (by split <;> omega) ⟨Int.le_refl _, Or.inl rfl⟩
    rw [← e] at hq
    unfold blQ at hq
    omega
