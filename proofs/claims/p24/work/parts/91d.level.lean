/-! LEVELS: from each to the next above, all bits are counted -/
def hT (X : aW) (c : Nat) : Int := (stF X (c + 1)).1
theorem hT_b {X : aW} (hX : wf X) {c : Nat} (hc : c < X.1.length * 6) : -193 ≤ hT X c ∧ hT X c ≤ 193 := by
  have h1 := hX.1
  have h2 := stF_OK X (c + 1)
  have h3 : -((c + 1 : Nat) : Int) - 1 ≤ (stF X (c + 1)).1 ∧ (stF X (c + 1)).1 ≤ ((c + 1 : Nat) : Int) + 1 := ⟨h2.1, h2.2.1⟩
  unfold hT
  omega
theorem lvF_s (X : aW) (x : Int) (b : Nat) : lvF X x (b + 1) = if hT X b = x then ((lvF X x b).1 + 1, (lvF X x b).2.1, (lvF X x b).2.2)
    else if x < hT X b ∧ ((lvF X x b).2.1 = -2000000 ∨ hT X b < (lvF X x b).2.1) then ((lvF X x b).1, hT X b, (lvF X x b).2.2)
    else if hT X b < x ∧ ((lvF X x b).2.2 = -2000000 ∨ (lvF X x b).2.2 < hT X b) then ((lvF X x b).1, (lvF X x b).2.1, hT X b)
    else lvF X x b := rfl
theorem lvF_e1 (X : aW) (x : Int) (b : Nat) : (lvF X x (b + 1)).1 = if hT X b = x then (lvF X x b).1 + 1 else (lvF X x b).1 := by
  rw [lvF_s]
  generalize hT X b = h
  generalize lvF X x b = z
  by_cases c : h = x
  · rw [if_pos c, if_pos c]
  · rw [if_neg c, if_neg c]
    split
    · rfl
    · split <;> rfl
theorem lvF_e2 (X : aW) (x : Int) (b : Nat) : (lvF X x (b + 1)).2.1 = if x < hT X b ∧ ((lvF X x b).2.1 = -2000000 ∨ hT X b < (lvF X x b).2.1) then hT X b else (lvF X x b).2.1 := by
  rw [lvF_s]
  generalize hT X b = h
  generalize lvF X x b = z
  by_cases c : h = x
  · rw [if_pos c, if_neg (by omega)]
  · rw [if_neg c]
    by_cases c2 : x < h ∧ (z.2.1 = -2000000 ∨ h < z.2.1)
    · rw [if_pos c2, if_pos c2]
    · rw [if_neg c2, if_neg c2]
      split <;> rfl
theorem lvF_e3 (X : aW) (x : Int) (b : Nat) : (lvF X x (b + 1)).2.2 = if hT X b < x ∧ ((lvF X x b).2.2 = -2000000 ∨ (lvF X x b).2.2 < hT X b) then hT X b else (lvF X x b).2.2 := by
  rw [lvF_s]
  generalize hT X b = h
  generalize lvF X x b = z
  by_cases c : h = x
  · rw [if_pos c, if_neg (by omega)]
  · rw [if_neg c]
    by_cases c2 : x < h ∧ (z.2.1 = -2000000 ∨ h < z.2.1)
    · rw [if_pos c2, if_neg (by omega)]
    · rw [if_neg c2]
      by_cases c3 : h < x ∧ (z.2.2 = -2000000 ∨ z.2.2 < h)
      · rw [if_pos c3, if_pos c3]
      · rw [if_neg c3, if_neg c3]
theorem lv_times (X : aW) (x : Int) : ∀ b : Nat, 0 ≤ (lvF X x b).1 ∧ ((lvF X x b).1 = 0 → ∀ c, c < b → hT X c ≠ x) := by
  intro b
  induction b with
  | zero => exact ⟨Int.le_refl _, fun _ c hc => absurd hc (Nat.not_lt_zero c)⟩
  | succ b ih =>
    have e := lvF_e1 X x b
    rw [e]
    obtain ⟨h1, h2⟩ := ih
    by_cases c : hT X b = x
    · rw [if_pos c]
      exact ⟨by omega, fun q => by omega⟩
    · rw [if_neg c]
      refine ⟨h1, fun q c2 hc2 => ?_⟩
      by_cases c3 : c2 = b
      · subst c3; exact c
      · exact h2 q c2 (by omega)
theorem lv_above' (X : aW) (x : Int) : ∀ b : Nat, (∀ c, c < b → hT X c ≠ -2000000) → ((lvF X x b).2.1 = -2000000 ∧ ∀ c, c < b → hT X c ≤ x) ∨ (x < (lvF X x b).2.1 ∧ (∃ c, c < b ∧ hT X c = (lvF X x b).2.1) ∧ ∀ c, c < b → hT X c ≤ x ∨ (lvF X x b).2.1 ≤ hT X c) := by
  intro b
  induction b with
  | zero => intro _; exact Or.inl ⟨rfl, fun c hc => absurd hc (Nat.not_lt_zero c)⟩
  | succ b ih0 =>
    intro hb
    have ih := ih0 (fun c hc => hb c (by omega))
    have e := lvF_e2 X x b
    rw [e]
    by_cases c : x < hT X b ∧ ((lvF X x b).2.1 = -2000000 ∨ hT X b < (lvF X x b).2.1)
    · rw [if_pos c]
      right
      refine ⟨c.1, ⟨b, by omega, rfl⟩, fun q hq => ?_⟩
      by_cases c2 : q = b
      · subst c2; right; exact Int.le_refl _
      · rcases ih with ⟨i1, i2⟩ | ⟨i1, i2, i3⟩
        · left; exact i2 q (by omega)
        · rcases i3 q (by omega) with j | j
          · left; exact j
          · right
            rcases c.2 with k | k
            · obtain ⟨c0, k1, k2⟩ := i2
              exact absurd (k2.trans k) (hb c0 (by omega))
            · omega
    · rw [if_neg c]
      rcases ih with ⟨i1, i2⟩ | ⟨i1, i2, i3⟩
      · left
        refine ⟨i1, fun q hq => ?_⟩
        by_cases c2 : q = b
        · subst c2; apply Int.not_lt.mp; intro z; exact c ⟨z, Or.inl i1⟩
        · exact i2 q (by omega)
      · right
        obtain ⟨c0, k1, k2⟩ := i2
        refine ⟨i1, ⟨c0, by omega, k2⟩, fun q hq => ?_⟩
        by_cases c2 : q = b
        · subst c2
          by_cases z : x < hT X q
          · right; apply Int.not_lt.mp; intro y; exact c ⟨z, Or.inr y⟩
          · left; omega
        · exact i3 q (by omega)
theorem lv_below' (X : aW) (x : Int) : ∀ b : Nat, (∀ c, c < b → hT X c ≠ -2000000) → ((lvF X x b).2.2 = -2000000 ∧ ∀ c, c < b → x ≤ hT X c) ∨ ((lvF X x b).2.2 < x ∧ (∃ c, c < b ∧ hT X c = (lvF X x b).2.2) ∧ ∀ c, c < b → x ≤ hT X c ∨ hT X c ≤ (lvF X x b).2.2) := by
  intro b
  induction b with
  | zero => intro _; exact Or.inl ⟨rfl, fun c hc => absurd hc (Nat.not_lt_zero c)⟩
  | succ b ih0 =>
    intro hb
    have ih := ih0 (fun c hc => hb c (by omega))
    have e := lvF_e3 X x b
    rw [e]
    by_cases c : hT X b < x ∧ ((lvF X x b).2.2 = -2000000 ∨ (lvF X x b).2.2 < hT X b)
    · rw [if_pos c]
      right
      refine ⟨c.1, ⟨b, by omega, rfl⟩, fun q hq => ?_⟩
      by_cases c2 : q = b
      · subst c2; right; exact Int.le_refl _
      · rcases ih with ⟨i1, i2⟩ | ⟨i1, i2, i3⟩
        · left; exact i2 q (by omega)
        · rcases i3 q (by omega) with j | j
          · left; exact j
          · right
            rcases c.2 with k | k
            · obtain ⟨c0, k1, k2⟩ := i2
              exact absurd (k2.trans k) (hb c0 (by omega))
            · omega
    · rw [if_neg c]
      rcases ih with ⟨i1, i2⟩ | ⟨i1, i2, i3⟩
      · left
        refine ⟨i1, fun q hq => ?_⟩
        by_cases c2 : q = b
        · subst c2; apply Int.not_lt.mp; intro z; exact c ⟨z, Or.inl i1⟩
        · exact i2 q (by omega)
      · right
        obtain ⟨c0, k1, k2⟩ := i2
        refine ⟨i1, ⟨c0, by omega, k2⟩, fun q hq => ?_⟩
        by_cases c2 : q = b
        · subst c2
          by_cases z : hT X q < x
          · right; apply Int.not_lt.mp; intro y; exact c ⟨z, Or.inr y⟩
          · left; omega
        · exact i3 q (by omega)
/-- behind how many of so many bits the LEVEL is at most x -/
def clF (X : aW) (x : Int) : Nat → Int
  | 0 => 0
  | b + 1 => clF X x b + (if hT X b ≤ x then 1 else 0)
theorem clF_0 (X : aW) (x : Int) : ∀ b : Nat, (∀ c, c < b → x < hT X c) → clF X x b = 0 := by
  intro b
  induction b with
  | zero => intro _; rfl
  | succ b ih =>
    intro h
    have := h b (by omega)
    simp only [clF]
    rw [ih (fun c hc => h c (by omega)), if_neg (by omega)]
    rfl
theorem clF_all (X : aW) (x : Int) : ∀ b : Nat, (∀ c, c < b → hT X c ≤ x) → clF X x b = b := by
  intro b
  induction b with
  | zero => intro _; rfl
  | succ b ih =>
    intro h
    simp only [clF]
    rw [ih (fun c hc => h c (by omega)), if_pos (h b (by omega))]
    omega
theorem clF_pos (X : aW) (x : Int) : ∀ b : Nat, 0 ≤ clF X x b ∧ clF X x b ≤ b := by
  intro b
  induction b with
  | zero => exact ⟨Int.le_refl _, Int.le_refl _⟩
  | succ b ih =>
    simp only [clF]
    split <;> omega
/-- from one level to the next one above -/
theorem clF_next (X : aW) {x y : Int} (hxy : x < y) : ∀ b : Nat, (∀ c, c < b → hT X c ≤ x ∨ y ≤ hT X c) → clF X x b + (lvF X y b).1 = clF X y b := by
  intro b
  induction b with
  | zero => intro _; rfl
  | succ b ih =>
    intro h
    have e := lvF_e1 X y b
    have h0 := h b (by omega)
    have h1 := ih (fun c hc => h c (by omega))
    rw [e]
    simp only [clF]
    by_cases c1 : hT X b = y
    · rw [if_pos c1, if_neg (by omega), if_pos (by omega)]; omega
    · rw [if_neg c1]
      by_cases c2 : hT X b ≤ x
      · rw [if_pos c2, if_pos (by omega)]; omega
      · rw [if_neg c2, if_neg (by omega)]; omega
/-- a level of the climb: the bottom, or one that it has -/
def lvA (X : aW) (x : Int) : Prop := x = -300 ∨ ∃ c, c < X.1.length * 6 ∧ hT X c = x
/-- what the climb finds at x -/
theorem lv_step {X : aW} (hX : wf X) {x : Int} (hx : lvA X x) :
    (-300 ≤ x ∧ x ≤ 193) ∧
    (((lvF X x (X.1.length * 6)).2.1 = -2000000 ∧ clF X x (X.1.length * 6) = (X.1.length * 6 : Nat)) ∨
     (x < (lvF X x (X.1.length * 6)).2.1 ∧ lvA X (lvF X x (X.1.length * 6)).2.1 ∧ -193 ≤ (lvF X x (X.1.length * 6)).2.1 ∧ (lvF X x (X.1.length * 6)).2.1 ≤ 193 ∧
      (lvF X (lvF X x (X.1.length * 6)).2.1 (X.1.length * 6)).1 ≠ 0 ∧
      (0 < clF X x (X.1.length * 6) → (lvF X (lvF X x (X.1.length * 6)).2.1 (X.1.length * 6)).2.2 = x) ∧
      clF X x (X.1.length * 6) + (lvF X (lvF X x (X.1.length * 6)).2.1 (X.1.length * 6)).1 = clF X (lvF X x (X.1.length * 6)).2.1 (X.1.length * 6))) := by
  obtain ⟨N, hN⟩ : ∃ N, N = X.1.length * 6 := ⟨_, rfl⟩
  have hNl : N ≤ 192 := by have := hX.1; omega
  have hb : ∀ c, c < N → -193 ≤ hT X c ∧ hT X c ≤ 193 := fun c hc => hT_b hX (by omega)
  rw [← hN]
  have hx0 : -300 ≤ x ∧ x ≤ 193 := by
    rcases hx with h | ⟨c, h1, h2⟩
    · omega
    · have := hb c (by omega); omega
  refine ⟨hx0, ?_⟩
  -- only bits of the wire are looked at
  have habove : ((lvF X x N).2.1 = -2000000 ∧ ∀ c, c < N → hT X c ≤ x) ∨ (x < (lvF X x N).2.1 ∧ (∃ c, c < N ∧ hT X c = (lvF X x N).2.1) ∧ ∀ c, c < N → hT X c ≤ x ∨ (lvF X x N).2.1 ≤ hT X c) := lv_above' X x N (fun c hc => by have := hb c hc; omega)
  rcases habove with ⟨a1, a2⟩ | ⟨a1, ⟨c0, a2, a3⟩, a4⟩
  · exact Or.inl ⟨a1, clF_all X x N a2⟩
  · right
    generalize (lvF X x N).2.1 = y at *
    have hy := hb c0 a2
    refine ⟨a1, Or.inr ⟨c0, by omega, a3⟩, by omega, by omega, ?_, ?_, clF_next X a1 N a4⟩
    · intro z
      exact (lv_times X y N).2 z c0 a2 a3
    · intro hp
      have hbelow : ((lvF X y N).2.2 = -2000000 ∧ ∀ c, c < N → y ≤ hT X c) ∨ ((lvF X y N).2.2 < y ∧ (∃ c, c < N ∧ hT X c = (lvF X y N).2.2) ∧ ∀ c, c < N → y ≤ hT X c ∨ hT X c ≤ (lvF X y N).2.2) := lv_below' X y N (fun c hc => by have := hb c hc; omega)
      rcases hx with h | ⟨c1, h1, h2⟩
      · have := clF_0 X x N (fun c hc => by have := hb c hc; omega)
        omega
      · rcases hbelow with ⟨b1, b2⟩ | ⟨b1, ⟨c2, b2, b3⟩, b4⟩
        · have := b2 c1 (by omega); omega
        · have q1 := b4 c1 (by omega)
          have q2 := a4 c2 b2
          omega
