/-! THE WIRE AS IT WAS SENT: it reads without a breach -/
theorem snF_at : ∀ (l : List Int) (s : Int) (w : Nat), w < l.length → (snF s l).getD w 0 = fD (l.getD w 0) (smF s (l.take w)) := by
  intro l
  induction l with
  | nil => intro s w h; simp at h
  | cons k l ih =>
    intro s w h
    cases w with
    | zero => simp [snF, smF]
    | succ w =>
      have := ih (sB (fD k s) s) w (by simpa using h)
      simpa [snF, smF] using this
theorem smF_at : ∀ (l : List Int) (s : Int) (w : Nat), w < l.length → smF s (l.take (w + 1)) = sB (fD (l.getD w 0) (smF s (l.take w))) (smF s (l.take w)) := by
  intro l
  induction l with
  | nil => intro s w h; simp at h
  | cons k l ih =>
    intro s w h
    cases w with
    | zero => simp [smF]
    | succ w =>
      have := ih (sB (fD k s) s) w (by simpa using h)
      simpa [smF] using this
theorem wk_sm (X : aW) : ∀ w : Nat, w ≤ X.1.length → (wkG (sntG X) (-1) w).1 = smF (-1) (X.1.take w) := by
  intro w
  induction w with
  | zero => intro _; simp [wkG, smF]
  | succ w ih =>
    intro h
    show sB (sntG X w) (wkG (sntG X) (-1) w).1 = _
    rw [ih (by omega), smF_at _ _ _ (by omega)]
    unfold sntG snt
    rw [snF_at _ _ _ (by omega)]
theorem snt_wk (X : aW) (w : Nat) (h : w < X.1.length) : fD (X.1.getD w 0) (wkG (sntG X) (-1) w).1 = sntG X w := by
  rw [wk_sm X w (by omega)]
  unfold sntG snt
  rw [snF_at _ _ _ h]
theorem sumI_last (f : Int → Int) : ∀ (m : Nat) (k : Int), sumI f k (m + 1) = sumI f k m + f (k + m) := by
  intro m
  induction m with
  | zero => intro k; simp [sumI]
  | succ m ih =>
    intro k
    have e : k + 1 + (m : Int) = k + ((m + 1 : Nat) : Int) := by omega
    show f k + sumI f (k + 1) (m + 1) = (f k + sumI f (k + 1) m) + f (k + ((m + 1 : Nat) : Int))
    rw [ih (k + 1), e, Int.add_assoc]
theorem btA_w (l : List Int) (w j : Nat) (hj : j < 6) : btA l ((6 * w + j : Nat) : Int) = l.getD w 0 / 2 ^ (5 - j) % 2 := by
  unfold btA
  have e1 : (((6 * w + j : Nat) : Int) / 6).toNat = w := by omega
  have e2 : (5 - ((6 * w + j : Nat) : Int) % 6).toNat = 5 - j := by omega
  rw [e1, e2]
theorem fsF_stay (G : Nat → Int) (u fi : Int) (h : ¬ fi = -9) : ∀ (k p : Nat), fsF G u fi p k = fi := by
  intro k
  induction k with
  | zero => intro p; rfl
  | succ k ih =>
    intro p
    simp only [fsF]
    rw [if_neg h]
    split <;> exact ih _
theorem fsF_none (G : Nat → Int) (u : Int) : ∀ (k p : Nat), fsF G u (-9) p k = -9 ↔ ∀ q, p ≤ q → q < p + k → brG G u q = 0 := by
  intro k
  induction k with
  | zero => intro p; exact ⟨fun _ q h1 h2 => by omega, fun _ => rfl⟩
  | succ k ih =>
    intro p
    simp only [fsF]
    by_cases c : brG G u p = 0
    · rw [if_pos c, ih (p + 1)]
      constructor
      · intro h q h1 h2
        by_cases e : q = p
        · subst e; exact c
        · exact h q (by omega) (by omega)
      · intro h q h1 h2
        exact h q (by omega) (by omega)
    · rw [if_neg c, if_pos trivial, fsF_stay _ _ _ (by omega)]
      constructor
      · intro h; omega
      · intro h; exact absurd (h p (by omega) (by omega)) c
theorem fsF_some (G : Nat → Int) (u : Int) : ∀ (k p : Nat), ¬ fsF G u (-9) p k = -9 → ∃ r : Nat, fsF G u (-9) p k = r ∧ p ≤ r ∧ r < p + k ∧ ¬ brG G u r = 0 ∧ ∀ q, p ≤ q → q < r → brG G u q = 0 := by
  intro k
  induction k with
  | zero => intro p h; exact absurd rfl h
  | succ k ih =>
    intro p h
    simp only [fsF] at h ⊢
    by_cases c : brG G u p = 0
    · rw [if_pos c] at h ⊢
      obtain ⟨r, h1, h2, h3, h4, h5⟩ := ih (p + 1) h
      refine ⟨r, h1, by omega, by omega, h4, fun q q1 q2 => ?_⟩
      by_cases e : q = p
      · subst e; exact c
      · exact h5 q (by omega) q2
    · rw [if_neg c, if_pos trivial, fsF_stay _ _ _ (by omega)]
      exact ⟨p, rfl, Nat.le_refl _, by omega, c, fun q q1 q2 => by omega⟩
theorem okR_wk (G : Nat → Int) (u : Int) : ∀ (k q : Nat), okR G (wkG G u q) q k = true ↔ ∀ r, q ≤ r → r < q + k → brG G u r = 0 := by
  intro k
  induction k with
  | zero => intro q; exact ⟨fun _ r h1 h2 => by omega, fun _ => rfl⟩
  | succ k ih =>
    intro q
    have e : okR G (wkG G u q) q (k + 1) = (decide (brG G u q = 0) && okR G (wkG G u (q + 1)) (q + 1) k) := rfl
    rw [e, Bool.and_eq_true, decide_eq_true_eq, ih (q + 1)]
    constructor
    · intro h r h1 h2
      by_cases c : r = q
      · subst c; exact h.1
      · exact h.2 r (by omega) (by omega)
    · intro h
      exact ⟨h q (by omega) (by omega), fun r h1 h2 => h r (by omega) (by omega)⟩
theorem okR_cong (G H : Nat → Int) : ∀ (k q : Nat) (S : Int × wS), (∀ r, q ≤ r → G r = H r) → okR G S q k = okR H S q k := by
  intro k
  induction k with
  | zero => intro q S _; rfl
  | succ k ih =>
    intro q S h
    simp only [okR]
    rw [h q (Nat.le_refl _), ih (q + 1) _ (fun r hr => h r (by omega))]
theorem wkG_cong (G H : Nat → Int) (u : Int) : ∀ q : Nat, (∀ r, r < q → G r = H r) → wkG G u q = wkG H u q := by
  intro q
  induction q with
  | zero => intro _; rfl
  | succ q ih =>
    intro h
    show (tkG (wkG G u q) (G q)).1 = (tkG (wkG H u q) (H q)).1
    rw [ih (fun r hr => h r (by omega)), h q (by omega)]
/-- how it stands behind a word as sent: sum, last bit, run -/
def sR : List (Int × Int × Int) := [(-1, -9, 0), (-1, 0, 1), (-1, 0, 2), (-1, 0, 3), (-1, 0, 4), (-1, 1, 1), (-1, 1, 2), (1, 0, 1), (1, 0, 2), (1, 1, 1), (1, 1, 2), (1, 1, 3), (1, 1, 4)]
def okS (S : Int × wS) : Bool := decide (S.2.1 = S.1) && (sR.contains (S.1, S.2.2.1, S.2.2.2.1) && (decide (0 ≤ S.2.2.2.2) && decide (S.2.2.2.2 ≤ 6)))
def okT (T : (Int × wS) × Nat) : Bool := okS T.1 && decide (T.2 = 0)
theorem step_tab : (sR.all fun q => (List.range 7).all fun lg => (List.range 34).all fun k => okT (tkG (q.1, (q.1, q.2.1, q.2.2, (lg : Int))) (fD (k : Int) q.1))) = true := by decide +kernel
theorem step_ok {S : Int × wS} {k : Int} (h : okS S = true) (h0 : 0 ≤ k) (h1 : k < 34) : okS (tkG S (fD k S.1)).1 = true ∧ (tkG S (fD k S.1)).2 = 0 := by
  obtain ⟨s, hh, b, r, lg⟩ := S
  simp only [okS, Bool.and_eq_true, decide_eq_true_eq, List.contains_iff_mem] at h
  obtain ⟨h2, h3, h4, h5⟩ := h
  subst h2
  have t1 := List.all_eq_true.mp step_tab _ h3
  have t2 := List.all_eq_true.mp t1 lg.toNat (List.mem_range.mpr (by omega))
  have t3 := List.all_eq_true.mp t2 k.toNat (List.mem_range.mpr (by omega))
  simp only [okT, Bool.and_eq_true, decide_eq_true_eq, Int.toNat_of_nonneg h4, Int.toNat_of_nonneg h0] at t3
  exact t3
/-- all words stand as they were sent -/
def strt (X : aW) : Prop := ∀ i : Nat, i < X.1.length → X.2.getD i 0 = sntG X i
theorem sent_ok {X : aW} (hX : wf X) : ∀ p : Nat, p ≤ X.1.length → okS (wkG (sntG X) (-1) p) = true ∧ ∀ q, q < p → brG (sntG X) (-1) q = 0 := by
  intro p
  induction p with
  | zero => intro _; exact ⟨(by decide : okS ((-1, (-1, -9, 0, 0)) : Int × wS) = true), fun q hq => absurd hq (Nat.not_lt_zero q)⟩
  | succ p ih =>
    intro hp
    obtain ⟨h1, h2⟩ := ih (by omega)
    have hk := hX.2.2.1 p (by omega)
    have h3 := step_ok h1 hk.1 hk.2
    rw [snt_wk X p (by omega)] at h3
    refine ⟨h3.1, fun q hq => ?_⟩
    by_cases c : q = p
    · subst c; exact h3.2
    · exact h2 q (by omega)
theorem okS_v {S : Int × wS} (h : okS S = true) : S.2.1 = S.1 ∧ 0 ≤ S.2.2.2.2 ∧ S.2.2.2.2 ≤ 6 := by
  simp only [okS, Bool.and_eq_true, decide_eq_true_eq] at h
  exact ⟨h.1, h.2.2.1, h.2.2.2⟩
/-- a piece from a word's first bit on is the word -/
theorem rg_at {X : aW} (hX : wf X) {p : Nat} (hp : p < X.1.length) : rg X 0 p = X.2.getD p 0 := by
  have hv := hX.2.2.2 p hp
  show pcN X.2 (0 + 6 * (p : Int)) = _
  unfold pcN
  have e : ∀ j : Nat, (0 : Int) + 6 * (p : Int) + (j : Int) = ((6 * p + j : Nat) : Int) := fun j => by omega
  have e0 := e 0; have e1 := e 1; have e2 := e 2; have e3 := e 3; have e4 := e 4; have e5 := e 5
  simp only [Int.natCast_zero, Int.natCast_one, Int.cast_ofNat_Int] at e0 e1 e2 e3 e4 e5
  rw [e0, e1, e2, e3, e4, e5, btA_w _ _ _ (by omega), btA_w _ _ _ (by omega), btA_w _ _ _ (by omega), btA_w _ _ _ (by omega), btA_w _ _ _ (by omega), btA_w _ _ _ (by omega)]
  simp only [Nat.reduceSub, show (2 : Int) ^ 5 = 32 from rfl, show (2 : Int) ^ 4 = 16 from rfl, show (2 : Int) ^ 3 = 8 from rfl, show (2 : Int) ^ 2 = 4 from rfl, show (2 : Int) ^ 1 = 2 from rfl, show (2 : Int) ^ 0 = 1 from rfl]
  generalize X.2.getD p 0 = v at *
  omega
theorem rm_0 (X : aW) : rm X 0 = X.1.length := by
  unfold rm pN
  by_cases c : (X.1.length : Int) = 0
  · rw [if_pos c, c]
  · rw [if_neg c, if_pos rfl]
theorem rg_sent {X : aW} (hX : wf X) (hs : strt X) {p : Nat} (hp : p < X.1.length) : rg X 0 p = sntG X p := by rw [rg_at hX hp, hs p hp]
theorem wk_sent {X : aW} (hX : wf X) (hs : strt X) {p : Nat} (hp : p ≤ X.1.length) : wkG (rg X 0) (-1) p = wkG (sntG X) (-1) p := wkG_cong _ _ _ p (fun r hr => rg_sent hX hs (by omega))
theorem br_sent {X : aW} (hX : wf X) (hs : strt X) {p : Nat} (hp : p < X.1.length) : brG (rg X 0) (-1) p = 0 := by
  have := (sent_ok hX X.1.length (Nat.le_refl _)).2 p hp
  show (tkG (wkG (rg X 0) (-1) p) (rg X 0 p)).2 = 0
  rw [wk_sent hX hs (by omega), rg_sent hX hs hp]
  exact this
/-- bit by bit and piece by piece -/
theorem bt6_pc (l : List Int) (a : Int) : bt6 (pcN l a) = [btA l (a + 0), btA l (a + 1), btA l (a + 2), btA l (a + 3), btA l (a + 4), btA l (a + 5)] := by
  have b0 := btA_b l (a + 0)
  have b1 := btA_b l (a + 1)
  have b2 := btA_b l (a + 2)
  have b3 := btA_b l (a + 3)
  have b4 := btA_b l (a + 4)
  have b5 := btA_b l (a + 5)
  unfold bt6 pcN
  generalize btA l (a + 0) = x0 at *
  generalize btA l (a + 1) = x1 at *
  generalize btA l (a + 2) = x2 at *
  generalize btA l (a + 3) = x3 at *
  generalize btA l (a + 4) = x4 at *
  generalize btA l (a + 5) = x5 at *
  have q0 : (2 * (2 * (2 * (2 * (2 * (2 * 0 + x0) + x1) + x2) + x3) + x4) + x5) / 32 % 2 = x0 := by omega
  have q1 : (2 * (2 * (2 * (2 * (2 * (2 * 0 + x0) + x1) + x2) + x3) + x4) + x5) / 16 % 2 = x1 := by omega
  have q2 : (2 * (2 * (2 * (2 * (2 * (2 * 0 + x0) + x1) + x2) + x3) + x4) + x5) / 8 % 2 = x2 := by omega
  have q3 : (2 * (2 * (2 * (2 * (2 * (2 * 0 + x0) + x1) + x2) + x3) + x4) + x5) / 4 % 2 = x3 := by omega
  have q4 : (2 * (2 * (2 * (2 * (2 * (2 * 0 + x0) + x1) + x2) + x3) + x4) + x5) / 2 % 2 = x4 := by omega
  have q5 : (2 * (2 * (2 * (2 * (2 * (2 * 0 + x0) + x1) + x2) + x3) + x4) + x5) % 2 = x5 := by omega
  rw [q0, q1, q2, q3, q4, q5]
theorem st_wk (X : aW) : ∀ p : Nat, stF X (6 * p) = (wkG (rg X 0) (-1) p).2 := by
  intro p
  induction p with
  | zero => rfl
  | succ p ih =>
    show _ = (tkL (wkG (rg X 0) (-1) p).2 (fbr (rg X 0 p) (wkG (rg X 0) (-1) p).1) (bt6 (pcN X.2 (0 + 6 * (p : Int))))).1
    rw [bt6_pc, ← ih]
    have e : ∀ j : Nat, (0 : Int) + 6 * (p : Int) + (j : Int) = ((6 * p + j : Nat) : Int) := fun j => by omega
    have e0 := e 0; have e1 := e 1; have e2 := e 2; have e3 := e 3; have e4 := e 4; have e5 := e 5
    simp only [Int.natCast_zero, Int.natCast_one, Int.cast_ofNat_Int] at e0 e1 e2 e3 e4 e5
    rw [e0, e1, e2, e3, e4, e5]
    rfl
theorem tkL_0 : ∀ (l : List Int) (W : wS) (f : Nat), (tkL W f l).2 = 0 → f = 0 := by
  intro l
  induction l with
  | nil => intro W f h; exact h
  | cons x l ih =>
    intro W f h
    have := ih (wst W x) _ h
    exact (Nat.or_eq_zero_iff.mp this).1
theorem tkL_1 {l : List Int} {W : wS} {f : Nat} {x : Int} (h : (tkL W f (x :: l)).2 = 0) : bfl (wst W x) = 0 := (Nat.or_eq_zero_iff.mp (tkL_0 l (wst W x) _ h)).2
theorem bfl_v {W : wS} (h : bfl W = 0) : -3 ≤ W.1 ∧ W.1 ≤ 3 := by
  have h2 := (Nat.or_eq_zero_iff.mp h).2
  by_cases c : 3 < W.1 ∨ W.1 < -3
  · rw [if_pos c] at h2; omega
  · omega
/-- no LEVEL is far, as it was sent -/
theorem lev_sent {X : aW} (hX : wf X) (hs : strt X) {b : Nat} (hb : b < X.1.length * 6) : -3 ≤ (stF X (b + 1)).1 ∧ (stF X (b + 1)).1 ≤ 3 := by
  obtain ⟨p, j, hj, rfl⟩ : ∃ p j, j < 6 ∧ b = 6 * p + j := ⟨b / 6, b % 6, by omega, by omega⟩
  have h2 : (tkL (wkG (rg X 0) (-1) p).2 (fbr (rg X 0 p) (wkG (rg X 0) (-1) p).1) (bt6 (pcN X.2 (0 + 6 * (p : Int))))).2 = 0 := br_sent hX hs (p := p) (by omega)
  rw [bt6_pc, ← st_wk] at h2
  have e : ∀ j : Nat, (0 : Int) + 6 * (p : Int) + (j : Int) = ((6 * p + j : Nat) : Int) := fun j => by omega
  have e0 := e 0; have e1 := e 1; have e2 := e 2; have e3 := e 3; have e4 := e 4; have e5 := e 5
  simp only [Int.natCast_zero, Int.natCast_one, Int.cast_ofNat_Int] at e0 e1 e2 e3 e4 e5
  rw [e0, e1, e2, e3, e4, e5] at h2
  have key : ∀ (l : List Int) (W : wS) (f : Nat) (x : Int), (tkL W f (x :: l)).2 = 0 → (tkL (wst W x) (f ||| bfl (wst W x)) l).2 = 0 := fun l W f x q => q
  have hm : j = 0 ∨ j = 1 ∨ j = 2 ∨ j = 3 ∨ j = 4 ∨ j = 5 := by omega
  rcases hm with rfl | rfl | rfl | rfl | rfl | rfl
  · exact bfl_v (tkL_1 h2)
  · exact bfl_v (tkL_1 (key _ _ _ _ h2))
  · exact bfl_v (tkL_1 (key _ _ _ _ (key _ _ _ _ h2)))
  · exact bfl_v (tkL_1 (key _ _ _ _ (key _ _ _ _ (key _ _ _ _ h2))))
  · exact bfl_v (tkL_1 (key _ _ _ _ (key _ _ _ _ (key _ _ _ _ (key _ _ _ _ h2)))))
  · exact bfl_v (tkL_1 (key _ _ _ _ (key _ _ _ _ (key _ _ _ _ (key _ _ _ _ (key _ _ _ _ h2))))))
/-- the answers of a wire as it was sent -/
theorem first_sent {X : aW} (hX : wf X) (hs : strt X) : rFi X 0 0 = -9 := by
  show fsF (rg X 0) (-1) (-9) 0 (rm X 0).toNat = -9
  rw [rm_0, Int.toNat_natCast, fsF_none]
  exact fun q _ hq => br_sent hX hs (by omega)
theorem bkF_0 (G : Nat → Int) (u : Int) : ∀ (k p : Nat), (∀ q, p ≤ q → q < p + k → brG G u q = 0) → bkF G u p k = 0 := by
  intro k
  induction k with
  | zero => intro p _; rfl
  | succ k ih =>
    intro p h
    show (if brG G u p = 0 then 0 else 1) + bkF G u (p + 1) k = 0
    rw [if_pos (h p (Nat.le_refl _) (by omega)), ih (p + 1) (fun q h1 h2 => h q (by omega) (by omega))]
    rfl
theorem broken_sent {X : aW} (hX : wf X) (hs : strt X) : rBk X 0 0 = 0 := by
  show bkF (rg X 0) (-1) 0 (rm X 0).toNat = 0
  rw [rm_0, Int.toNat_natCast]
  exact bkF_0 _ _ _ _ (fun q _ hq => br_sent hX hs (by omega))
theorem cuts_sent {X : aW} (hX : wf X) (hs : strt X) (hn : 0 < X.1.length) : aCuts X 0 = 0 := by
  have h : 0 < rm X 0 ∧ rFi X 0 0 = -9 := ⟨by rw [rm_0]; omega, first_sent hX hs⟩
  show (if 0 < rm X 0 ∧ rFi X 0 0 = -9 then (if (0 : Int) = 0 then (0 : Int) else ctF X 0 11 (0 + 1) (0 + 1)) else ctF X 0 11 (0 + 1) 0) = 0
  rw [if_pos h]
  rfl
theorem long_sent {X : aW} (hX : wf X) (hs : strt X) : (stF X (X.1.length * 6)).2.2.2 ≤ 6 ∧ (stF X (X.1.length * 6)).1 = sm X.1 := by
  have h := sent_ok hX X.1.length (Nat.le_refl _)
  have h2 := okS_v h.1
  rw [Nat.mul_comm, st_wk, wk_sent hX hs (Nat.le_refl _)]
  refine ⟨h2.2.2, ?_⟩
  rw [h2.1, wk_sm X _ (Nat.le_refl _), List.take_length]
  rfl
theorem mean_tab : ∀ k : Nat, k < 34 → (mn (fD k (-1)) = k ∧ mn (fD k 1) = k) ∧ fR (fD k (-1)) (-1) = true ∧ fR (fD k 1) 1 = true := by decide +kernel
theorem piece_sent {X : aW} (hX : wf X) (hs : strt X) {p : Nat} (hp : p < X.1.length) : mn (rg X 0 p) = X.1.getD p 0 ∧ fR (rg X 0 p) (wkG (rg X 0) (-1) p).1 = true := by
  have hk := hX.2.2.1 p hp
  have ht := bdd (P := fun k => (mn (fD k (-1)) = k ∧ mn (fD k 1) = k) ∧ fR (fD k (-1)) (-1) = true ∧ fR (fD k 1) 1 = true) mean_tab hk.1 hk.2
  rw [rg_sent hX hs hp, wk_sent hX hs (by omega), ← snt_wk X p hp]
  rcases wkG_s (sntG X) (Or.inl rfl) p with c | c
  · rw [c]; exact ⟨ht.1.1, ht.2.1⟩
  · rw [c]; exact ⟨ht.1.2, ht.2.2⟩
/-- the order in which they were sent is one of those tried -/
def idW (ks : Nat → Int) : Nat → Nat → Int × wS → Int × wS
  | _, 0, S => S
  | i, rem + 1, S => idW ks (i + 1) rem (tkG S (fD (ks i) S.1)).1
theorem orp_tab : ∀ i : Nat, i < 6 → orU (2 ^ i - 1) i = 2 ^ (i + 1) - 1 := by decide +kernel
theorem tree_id {n : Nat} {ks : Nat → Int} (hn : n ≤ 6) : ∀ (rem i : Nat) (pre : List Int) (S : Int × wS) (B : (Nat → Int32) × Int), i + rem = n → (treeF n ks rem pre (2 ^ i - 1) S B).2 ≤ (idW ks i rem S).2.2.2.2 := by
  intro rem
  induction rem with
  | zero =>
    intro i pre S B h
    have e : i = n := by omega
    subst e
    simp only [treeF, if_true, idW]
    split
    · exact Int.le_refl _
    · omega
  | succ rem ih =>
    intro i pre S B h
    simp only [treeF, idW]
    refine forI_le (fun j B => tree_mono _ _ _ _ B) (j := i) (fun B => ?_) n 0 B (by omega) (by omega)
    rw [orp_tab i (by omega)]
    exact ih (i + 1) _ _ B (by omega)
theorem idW_wk {X : aW} {n : Nat} (hn : n ≤ X.1.length) : ∀ (rem i : Nat), i + rem = n → idW (lastK X n) i rem (wkG (sntG X) (-1) (X.1.length - n + i)) = wkG (sntG X) (-1) X.1.length := by
  intro rem
  induction rem with
  | zero => intro i h; rw [idW, show X.1.length - n + i = X.1.length by omega]
  | succ rem ih =>
    intro i h
    rw [← ih (i + 1) (by omega), idW]
    congr 1
    show (tkG _ (fD (X.1.getD (X.1.length - n + i) 0) _)).1 = (tkG (wkG (sntG X) (-1) (X.1.length - n + i)) (sntG X (X.1.length - n + i))).1
    rw [snt_wk X _ (by omega)]
theorem even_sent {X : aW} (hX : wf X) (hs : strt X) {n : Nat} (h6 : n ≤ 6) (hn : n ≤ X.1.length) (b : Nat → Int32) : (srcF X n b).2 ≤ (stF X (X.1.length * 6)).2.2.2 := by
  rw [Nat.mul_comm, st_wk, wk_sent hX hs (Nat.le_refl _), ← idW_wk hn n 0 (by omega)]
  unfold srcF
  rw [arr_tree h6 n [] 0 _ _ (by omega) (by omega) (p2_pos n) (by rw [pcI_0]; omega)]
  exact tree_id h6 n 0 [] _ _ (by omega)
/-- bits that are TURNED: none -/
theorem sumI_0 (f : Int → Int) (h0 : ∀ i, 0 ≤ f i) : ∀ (m : Nat) (k : Int), 0 ≤ sumI f k m ∧ (sumI f k m = 0 → ∀ j : Nat, j < m → f (k + j) = 0) := by
  intro m
  induction m with
  | zero => intro k; exact ⟨Int.le_refl _, fun _ j hj => absurd hj (Nat.not_lt_zero j)⟩
  | succ m ih =>
    intro k
    obtain ⟨h1, h2⟩ := ih (k + 1)
    have h3 := h0 k
    refine ⟨by show 0 ≤ f k + sumI f (k + 1) m; omega, fun h j hj => ?_⟩
    have h : f k + sumI f (k + 1) m = 0 := h
    cases j with
    | zero => rw [show k + ((0 : Nat) : Int) = k by omega]; omega
    | succ j => rw [show k + ((j + 1 : Nat) : Int) = k + 1 + (j : Int) by omega]; exact h2 (by omega) j (by omega)
theorem df_tab : ∀ a : Nat, a < 64 → ∀ b : Nat, b < 64 → 0 ≤ dfI a b ∧ (dfI a b = 0 → a = b) ∧ dfI a a = 0 := by decide +kernel
theorem dfI_v {a b : Int} (h0 : 0 ≤ a ∧ a < 64) (h1 : 0 ≤ b ∧ b < 64) : 0 ≤ dfI a b ∧ (dfI a b = 0 → a = b) ∧ dfI a a = 0 := by
  have := df_tab a.toNat (by omega) b.toNat (by omega)
  rw [Int.toNat_of_nonneg h0.1, Int.toNat_of_nonneg h1.1] at this
  exact ⟨this.1, fun q => by have := this.2.1 q; omega, this.2.2⟩
theorem pcI_0n : ∀ k : Int, 0 ≤ pcI k := by
  intro k
  have h : ∀ j : Nat, 0 ≤ pcL.getD j 0 := by
    intro j
    by_cases c : j < 64
    · have : ∀ j : Nat, j < 64 → 0 ≤ pcL.getD j 0 := by decide +kernel
      exact this j c
    · rw [List.getD_eq_getElem?_getD, List.getElem?_eq_none (by show 64 ≤ j; omega)]; exact Int.le_refl _
  exact h _
theorem strt_of {S : aS} (hX : wf S.X) (h : aCount S 3 = 0) : strt S.X := by
  intro i hi
  have h1 := (sumI_0 (fun i => dfI (S.X.2.getD i.toNat 0) ((snt S.X.1).getD i.toNat 0)) (fun i => pcI_0n _) S.X.1.length 0).2 h i hi
  simp only [Int.zero_add, Int.toNat_natCast] at h1
  exact (dfI_v (hX.2.2.2 i hi) (snt_b hX i hi)).2.1 h1
