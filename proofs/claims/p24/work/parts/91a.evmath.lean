/-! EVENEST: the search and the count of all codes -/
section
/-- every row of places, by its words one after another -/
def treeF (n : Nat) (ks : Nat → Int) : Nat → List Int → Int → Int × wS → (Nat → Int32) × Int → (Nat → Int32) × Int
  | 0, pre, us, S, B => if us = 2 ^ n - 1 then (if S.2.2.2.2 < B.2 then ((fun i => iI (pre.getD i 0)), S.2.2.2.2) else B) else B
  | rem + 1, pre, us, S, B => forI (fun i B => treeF n ks rem (pre ++ [(i : Int)]) (orU us i) (tkG S (fD (ks i) S.1)).1 B) 0 n B
theorem forI_add {β : Type} (F : Nat → β → β) : ∀ (p q a : Nat) (B : β), forI F a (p + q) B = forI F (a + p) q (forI F a p B) := by
  intro p
  induction p with
  | zero => intro q a B; rw [Nat.zero_add]; rfl
  | succ p ih =>
    intro q a B
    rw [show p + 1 + q = (p + q) + 1 by omega]
    show forI F (a + 1) (p + q) (F a B) = forI F (a + (p + 1)) q (forI F (a + 1) p (F a B))
    rw [ih, show a + 1 + p = a + (p + 1) by omega]
theorem forI_cong {β : Type} {F G : Nat → β → β} : ∀ (k a : Nat) (B : β), (∀ i, a ≤ i → i < a + k → ∀ B, F i B = G i B) → forI F a k B = forI G a k B := by
  intro k
  induction k with
  | zero => intro a B _; rfl
  | succ k ih =>
    intro a B h
    show forI F (a + 1) k (F a B) = forI G (a + 1) k (G a B)
    rw [h a (Nat.le_refl _) (by omega), ih (a + 1) _ (fun i h1 h2 => h i (by omega) (by omega))]
theorem forI_fix {β : Type} {F : Nat → β → β} {B : β} : ∀ (k a : Nat), (∀ i, a ≤ i → i < a + k → F i B = B) → forI F a k B = B := by
  intro k
  induction k with
  | zero => intro a _; rfl
  | succ k ih =>
    intro a h
    show forI F (a + 1) k (F a B) = B
    rw [h a (Nat.le_refl _) (by omega)]
    exact ih (a + 1) (fun i h1 h2 => h i (by omega) (by omega))
theorem forI_split {β : Type} (F : Nat → β → β) (a m : Nat) : ∀ (k j : Nat) (B : β), forI (fun i B => forI F (a + i * m) m B) j k B = forI F (a + j * m) (k * m) B := by
  intro k
  induction k with
  | zero => intro j B; rw [Nat.zero_mul]; rfl
  | succ k ih =>
    intro j B
    show forI (fun i B => forI F (a + i * m) m B) (j + 1) k (forI F (a + j * m) m B) = _
    rw [ih, Nat.succ_mul k m, Nat.add_comm (k * m) m, forI_add, Nat.succ_mul j m, Nat.add_assoc]
theorem pcor_tab : ∀ j : Nat, j < 6 → ∀ us : Nat, us < 64 → (pcI (orU us j) = if (us : Int) / 2 ^ j % 2 = 0 then pcI us + 1 else pcI us) ∧ (¬ (us : Int) / 2 ^ j % 2 = 0 → orU us j = us) ∧ 0 ≤ orU us j ∧ orU us j < 64 := by decide +kernel
theorem pcor {us : Int} {j : Nat} (h0 : 0 ≤ us) (h1 : us < 64) (hj : j < 6) : (pcI (orU us j) = if us / 2 ^ j % 2 = 0 then pcI us + 1 else pcI us) ∧ (¬ us / 2 ^ j % 2 = 0 → orU us j = us) ∧ 0 ≤ orU us j ∧ orU us j < 64 := by
  have := pcor_tab j hj us.toNat (by omega)
  rwa [Int.toNat_of_nonneg h0] at this
theorem orlt_1 : ∀ n : Nat, n < 7 → ∀ us : Nat, us < 64 → ∀ j : Nat, j < n → (us : Int) < 2 ^ n → orU us j < 2 ^ n := by decide +kernel
theorem orlt_2 : ∀ n : Nat, n < 7 → ∀ us : Nat, us < 64 → ((us : Int) < 2 ^ n ∧ pcI us = n) → (us : Int) = 2 ^ n - 1 := by decide +kernel
theorem orlt_3 : ∀ n : Nat, n < 7 → ∀ us : Nat, us < 64 → ((us : Int) < 2 ^ n ∧ pcI us < n) → (us : Int) ≠ 2 ^ n - 1 := by decide +kernel
def frI (us : Int) : Nat → Bool
  | 0 => false
  | n + 1 => decide (us / 2 ^ n % 2 = 0) || frI us n
theorem frI_ex (us : Int) : ∀ n : Nat, frI us n = true → ∃ j : Nat, j < n ∧ us / 2 ^ j % 2 = 0 := by
  intro n
  induction n with
  | zero => intro h; exact absurd h (by simp [frI])
  | succ n ih =>
    intro h
    simp only [frI, Bool.or_eq_true, decide_eq_true_eq] at h
    rcases h with q | q
    · exact ⟨n, by omega, q⟩
    · obtain ⟨j, h1, h2⟩ := ih q
      exact ⟨j, by omega, h2⟩
theorem orlt_4 : ∀ n : Nat, n < 7 → ∀ us : Nat, us < 64 → ((us : Int) < 2 ^ n ∧ pcI us < n) → frI us n = true := by decide +kernel
theorem orlt {us : Int} {n : Nat} (hn : n ≤ 6) (h0 : 0 ≤ us) (h1 : us < 64) (h2 : us < 2 ^ n) : (∀ j : Nat, j < n → orU us j < 2 ^ n) ∧ (pcI us = n → us = 2 ^ n - 1) ∧ (pcI us < n → us ≠ 2 ^ n - 1) ∧ (pcI us < n → ∃ j : Nat, j < n ∧ us / 2 ^ j % 2 = 0) := by
  obtain ⟨u, rfl⟩ : ∃ u : Nat, us = u := ⟨us.toNat, by omega⟩
  exact ⟨fun j hj => orlt_1 n (by omega) u (by omega) j hj h2, fun q => orlt_2 n (by omega) u (by omega) ⟨h2, q⟩, fun q => orlt_3 n (by omega) u (by omega) ⟨h2, q⟩, fun q => frI_ex _ _ (orlt_4 n (by omega) u (by omega) ⟨h2, q⟩)⟩
theorem tkL_mono : ∀ (l : List Int) (W : wS) (f : Nat), W.2.2.2 ≤ (tkL W f l).1.2.2.2 := by
  intro l
  induction l with
  | nil => intro W f; exact Int.le_refl _
  | cons x l ih =>
    intro W f
    refine Int.le_trans ?_ (ih (wst W x) _)
    show W.2.2.2 ≤ max W.2.2.2 _
    omega
theorem tkG_mono (S : Int × wS) (n : Int) : S.2.2.2.2 ≤ (tkG S n).1.2.2.2.2 := tkL_mono _ _ _
variable {n : Nat} {ks : Nat → Int}
theorem tree_prune : ∀ (rem : Nat) (pre : List Int) (us : Int) (S : Int × wS) (B : (Nat → Int32) × Int), B.2 ≤ S.2.2.2.2 → treeF n ks rem pre us S B = B := by
  intro rem
  induction rem with
  | zero =>
    intro pre us S B h
    simp only [treeF]
    split
    · rw [if_neg (by omega)]
    · rfl
  | succ rem ih =>
    intro pre us S B h
    simp only [treeF]
    exact forI_fix n 0 (fun i _ _ => ih _ _ _ B (Int.le_trans h (tkG_mono _ _)))
theorem tree_dead (hn : n ≤ 6) : ∀ (rem : Nat) (pre : List Int) (us : Int) (S : Int × wS) (B : (Nat → Int32) × Int), 0 ≤ us → us < 64 → us < 2 ^ n → pcI us + rem < n → treeF n ks rem pre us S B = B := by
  intro rem
  induction rem with
  | zero =>
    intro pre us S B h0 h1 h2 h3
    simp only [treeF]
    rw [if_neg ((orlt hn h0 h1 h2).2.2.1 (by omega))]
  | succ rem ih =>
    intro pre us S B h0 h1 h2 h3
    simp only [treeF]
    refine forI_fix n 0 (fun i _ hi => ?_)
    have hp := pcor h0 h1 (j := i) (by omega)
    refine ih _ _ _ B hp.2.2.1 hp.2.2.2 ((orlt hn h0 h1 h2).1 i (by omega)) ?_
    rw [hp.1]
    split <;> omega
/-- the search finds what trying all finds -/
theorem arr_tree (hn : n ≤ 6) : ∀ (rem : Nat) (pre : List Int) (us : Int) (S : Int × wS) (B : (Nat → Int32) × Int), 0 ≤ us → us < 64 → us < 2 ^ n → pcI us + rem = n → arrF n ks rem pre us S B = treeF n ks rem pre us S B := by
  intro rem
  induction rem with
  | zero =>
    intro pre us S B h0 h1 h2 h3
    simp only [arrF, treeF]
    rw [if_pos ((orlt hn h0 h1 h2).2.1 (by omega))]
    by_cases c : B.2 ≤ S.2.2.2.2
    · rw [if_pos c, if_neg (by omega)]
    · rw [if_neg c, if_pos (by omega)]
  | succ rem ih =>
    intro pre us S B h0 h1 h2 h3
    by_cases c : B.2 ≤ S.2.2.2.2
    · rw [tree_prune _ _ _ _ _ c]
      simp only [arrF]
      rw [if_pos c]
    · simp only [arrF, treeF]
      rw [if_neg c]
      refine forI_cong n 0 B (fun i _ hi B => ?_)
      have hp := pcor h0 h1 (j := i) (by omega)
      have hl := (orlt hn h0 h1 h2).1 i (by omega)
      by_cases z : us / 2 ^ i % 2 = 0
      · rw [if_pos z]
        refine ih _ _ _ B hp.2.2.1 hp.2.2.2 hl ?_
        rw [hp.1, if_pos z]
        omega
      · rw [if_neg z]
        symm
        refine tree_dead hn rem _ _ _ B hp.2.2.1 hp.2.2.2 hl ?_
        rw [hp.1, if_neg z]
        omega
/-- the code's figures, n the base -/
def digs (n : Nat) : Nat → Nat → List Int
  | 0, _ => []
  | k + 1, c => digs n k (c / n) ++ [((c % n : Nat) : Int)]
def mkL : Int → List Int → Int
  | us, [] => us
  | us, i :: l => mkL (orU us i.toNat) l
def ryS (ks : Nat → Int) : List Int → Int × wS → Int × wS
  | [], S => S
  | i :: l, S => ryS ks l (tkG S (fD (ks i.toNat) S.1)).1
theorem mkL_app : ∀ (l : List Int) (us i : Int), mkL us (l ++ [i]) = orU (mkL us l) i.toNat := by
  intro l
  induction l with
  | nil => intro us i; rfl
  | cons a l ih => intro us i; exact ih _ i
theorem ryS_app (ks : Nat → Int) : ∀ (l : List Int) (S : Int × wS) (i : Int), ryS ks (l ++ [i]) S = (tkG (ryS ks l S) (fD (ks i.toNat) (ryS ks l S).1)).1 := by
  intro l
  induction l with
  | nil => intro S i; rfl
  | cons a l ih => intro S i; exact ih _ i
theorem digs_len (n : Nat) : ∀ k c : Nat, (digs n k c).length = k := by
  intro k
  induction k with
  | zero => intro c; rfl
  | succ k ih => intro c; simp [digs, ih]
theorem digs_add {n i : Nat} (hi : i < n) (k c : Nat) : digs n (k + 1) (c * n + i) = digs n k c ++ [(i : Int)] := by
  simp only [digs]
  have h1 : (c * n + i) / n = c := by
    rw [Nat.mul_comm, Nat.mul_add_div (by omega), Nat.div_eq_of_lt hi, Nat.add_zero]
  have h2 : (c * n + i) % n = i := by
    rw [Nat.mul_comm, Nat.mul_add_mod, Nat.mod_eq_of_lt hi]
  rw [h1, h2]
/-- one code tried -/
def stepC (n : Nat) (ks : Nat → Int) (S : Int × wS) (c : Nat) (B : (Nat → Int32) × Int) : (Nat → Int32) × Int := if mkL 0 (digs n n c) = 2 ^ n - 1 then (if (ryS ks (digs n n c) S).2.2.2.2 < B.2 then ((fun i => iI ((digs n n c).getD i 0)), (ryS ks (digs n n c) S).2.2.2.2) else B) else B
theorem tree_codes (S : Int × wS) : ∀ (rem place c : Nat) (B : (Nat → Int32) × Int), place + rem = n → forI (stepC n ks S) (c * n ^ rem) (n ^ rem) B = treeF n ks rem (digs n place c) (mkL 0 (digs n place c)) (ryS ks (digs n place c) S) B := by
  intro rem
  induction rem with
  | zero =>
    intro place c B h
    have : place = n := by omega
    subst this
    rw [Nat.pow_zero, Nat.mul_one]
    rfl
  | succ rem ih =>
    intro place c B h
    simp only [treeF]
    have e : n ^ (rem + 1) = n * n ^ rem := by rw [Nat.pow_succ, Nat.mul_comm]
    have hs := forI_split (stepC n ks S) (c * n ^ (rem + 1)) (n ^ rem) n 0 B
    simp only [Nat.zero_mul, Nat.add_zero] at hs
    rw [← e] at hs
    rw [← hs]
    refine forI_cong n 0 B (fun i _ hi B => ?_)
    have e2 : c * n ^ (rem + 1) + i * n ^ rem = (c * n + i) * n ^ rem := by rw [e, Nat.add_mul, Nat.mul_assoc]
    rw [e2, ih (place + 1) (c * n + i) B (by omega), digs_add (by omega), mkL_app, ryS_app, Int.toNat_natCast]
theorem forI_ind {β : Type} {F : Nat → β × Int → β × Int} (h : ∀ i B B', B.2 = B'.2 → (F i B).2 = (F i B').2 ∧ ((F i B).1 = (F i B').1 ∨ (F i B = B ∧ F i B' = B'))) : ∀ (k a : Nat) (B B' : β × Int), B.2 = B'.2 → (forI F a k B).2 = (forI F a k B').2 ∧ ((forI F a k B).1 = (forI F a k B').1 ∨ (forI F a k B = B ∧ forI F a k B' = B')) := by
  intro k
  induction k with
  | zero => intro a B B' hB; exact ⟨hB, Or.inr ⟨rfl, rfl⟩⟩
  | succ k ih =>
    intro a B B' hB
    obtain ⟨h1, h2⟩ := h a B B' hB
    show (forI F (a + 1) k (F a B)).2 = (forI F (a + 1) k (F a B')).2 ∧ ((forI F (a + 1) k (F a B)).1 = (forI F (a + 1) k (F a B')).1 ∨ (forI F (a + 1) k (F a B) = B ∧ forI F (a + 1) k (F a B') = B'))
    rcases h2 with q | ⟨q1, q2⟩
    · have e : F a B = F a B' := Prod.ext q h1
      rw [e]
      exact ⟨rfl, Or.inl rfl⟩
    · rw [q1, q2]
      exact ih (a + 1) B B' hB
theorem tree_ind : ∀ (rem : Nat) (pre : List Int) (us : Int) (S : Int × wS) (B B' : (Nat → Int32) × Int), B.2 = B'.2 → (treeF n ks rem pre us S B).2 = (treeF n ks rem pre us S B').2 ∧ ((treeF n ks rem pre us S B).1 = (treeF n ks rem pre us S B').1 ∨ (treeF n ks rem pre us S B = B ∧ treeF n ks rem pre us S B' = B')) := by
  intro rem
  induction rem with
  | zero =>
    intro pre us S B B' h
    simp only [treeF]
    rw [← h]
    by_cases c : us = 2 ^ n - 1
    · rw [if_pos c, if_pos c]
      by_cases c2 : S.2.2.2.2 < B.2
      · rw [if_pos c2, if_pos c2]; exact ⟨rfl, Or.inl rfl⟩
      · rw [if_neg c2, if_neg c2]; exact ⟨h, Or.inr ⟨rfl, rfl⟩⟩
    · rw [if_neg c, if_neg c]; exact ⟨h, Or.inr ⟨rfl, rfl⟩⟩
  | succ rem ih =>
    intro pre us S B B' h
    simp only [treeF]
    exact forI_ind (F := fun i B => treeF n ks rem (pre ++ [(i : Int)]) (orU us i) (tkG S (fD (ks i) S.1)).1 B) (fun i B B' hB => ih _ _ _ B B' hB) n 0 B B' h
theorem tree_mono : ∀ (rem : Nat) (pre : List Int) (us : Int) (S : Int × wS) (B : (Nat → Int32) × Int), (treeF n ks rem pre us S B).2 ≤ B.2 := by
  intro rem
  induction rem with
  | zero =>
    intro pre us S B
    simp only [treeF]
    split
    · split
      · simp only; omega
      · exact Int.le_refl _
    · exact Int.le_refl _
  | succ rem ih =>
    intro pre us S B
    simp only [treeF]
    have : ∀ (k a : Nat) (B : (Nat → Int32) × Int), (forI (fun i B => treeF n ks rem (pre ++ [(i : Int)]) (orU us i) (tkG S (fD (ks i) S.1)).1 B) a k B).2 ≤ B.2 := by
      intro k
      induction k with
      | zero => intro a B; exact Int.le_refl _
      | succ k ih2 => intro a B; exact Int.le_trans (ih2 (a + 1) _) (ih _ _ _ B)
    exact this n 0 B
theorem forI_le {F : Nat → (Nat → Int32) × Int → (Nat → Int32) × Int} {z : Int} (hm : ∀ i B, (F i B).2 ≤ B.2) {j : Nat} (hj : ∀ B, (F j B).2 ≤ z) : ∀ (k a : Nat) (B : (Nat → Int32) × Int), a ≤ j → j < a + k → (forI F a k B).2 ≤ z := by
  have hmono : ∀ (k a : Nat) (B : (Nat → Int32) × Int), (forI F a k B).2 ≤ B.2 := by
    intro k
    induction k with
    | zero => intro a B; exact Int.le_refl _
    | succ k ih => intro a B; exact Int.le_trans (ih (a + 1) _) (hm a B)
  intro k
  induction k with
  | zero => intro a B h1 h2; omega
  | succ k ih =>
    intro a B h1 h2
    show (forI F (a + 1) k (F a B)).2 ≤ z
    by_cases c : a = j
    · subst c
      exact Int.le_trans (hmono k (a + 1) _) (hj B)
    · exact ih (a + 1) _ (by omega) (by omega)
/-- some order is found -/
theorem tree_le (hn : n ≤ 6) : ∀ (rem : Nat) (pre : List Int) (us m : Int) (S : Int × wS) (B : (Nat → Int32) × Int), 0 ≤ us → us < 64 → us < 2 ^ n → pcI us + rem = n → wOK m S.2 → (treeF n ks rem pre us S B).2 ≤ m + 6 * rem := by
  intro rem
  induction rem with
  | zero =>
    intro pre us m S B h0 h1 h2 h3 hS
    have h8 := hS.2.2.2.2.2.2.2
    simp only [treeF]
    rw [if_pos ((orlt hn h0 h1 h2).2.1 (by omega))]
    split
    · simp only; omega
    · omega
  | succ rem ih =>
    intro pre us m S B h0 h1 h2 h3 hS
    obtain ⟨j, hj, hz⟩ := (orlt hn h0 h1 h2).2.2.2 (by omega)
    have hp := pcor h0 h1 (j := j) (by omega)
    simp only [treeF]
    refine forI_le (fun i B => tree_mono _ _ _ _ B) (j := j) (fun B => ?_) n 0 B (by omega) (by omega)
    have := ih (pre ++ [(j : Int)]) (orU us j) (m + 6) (tkG S (fD (ks j) S.1)).1 B hp.2.2.1 hp.2.2.2 ((orlt hn h0 h1 h2).1 j hj) (by rw [hp.1, if_pos hz]; omega) (tkG_OK _ hS)
    omega
end
theorem p2_pos (n : Nat) : (0 : Int) < 2 ^ n := Int.pow_pos (by decide)
theorem pcI_0 : pcI 0 = 0 := by decide
/-- what was there before doesn't matter -/
theorem src_ind {X : aW} {n : Nat} (hn : n ≤ 6) (hl : n ≤ X.1.length) (h32 : X.1.length ≤ 32) (b b' : Nat → Int32) : (srcF X n b).2 = (srcF X n b').2 ∧ (srcF X n b).1 = (srcF X n b').1 := by
  unfold srcF
  have hp := p2_pos n
  rw [arr_tree hn n [] 0 _ _ (by omega) (by omega) hp (by rw [pcI_0]; omega), arr_tree hn n [] 0 _ _ (by omega) (by omega) hp (by rw [pcI_0]; omega)]
  have h := tree_ind (n := n) (ks := lastK X n) n [] 0 (wkG (sntG X) (-1) (X.1.length - n)) (b, 1000) (b', 1000) rfl
  refine ⟨h.1, ?_⟩
  rcases h.2 with q | ⟨q, _⟩
  · exact q
  · exfalso
    have hle := tree_le (n := n) (ks := lastK X n) hn n [] 0 (6 * (X.1.length - n : Nat)) (wkG (sntG X) (-1) (X.1.length - n)) (b, 1000) (by omega) (by omega) hp (by rw [pcI_0]; omega) (wkG_OK _ (Or.inl rfl) _)
    rw [q] at hle
    simp only at hle
    omega
theorem aEven_ind {X : aW} (hX : wf X) (b b' : Nat → Int32) (n i : Int) : aEven X b n i = aEven X b' n i := by
  have h32 := hX.1
  unfold aEven
  by_cases c : n < 1 ∨ 6 < n ∨ i < -1
  · rw [if_pos c, if_pos c]
  · rw [if_neg c, if_neg c]
    by_cases c2 : (X.1.length : Int) < n
    · rw [if_pos c2, if_pos c2]
    · rw [if_neg c2, if_neg c2]
      have h := src_ind (X := X) (n := n.toNat) (by omega) (by omega) h32 b b'
      rw [h.1, h.2]
/-- all codes tried -/
theorem src_codes {X : aW} {n : Nat} (hn : n ≤ 6) (b : Nat → Int32) : srcF X n b = forI (stepC n (lastK X n) (wkG (sntG X) (-1) (X.1.length - n))) 0 (n ^ n) (b, 1000) := by
  have hp := p2_pos n
  have h := tree_codes (n := n) (ks := lastK X n) (wkG (sntG X) (-1) (X.1.length - n)) n 0 0 (b, 1000) (by omega)
  rw [Nat.zero_mul] at h
  rw [h]
  unfold srcF
  exact arr_tree hn n [] 0 _ _ (by omega) (by omega) hp (by rw [pcI_0]; omega)
