/-! THE SMALL MACHINE'S MEMORY AS CELLS OF THE HEAP -/
/-- class ids and slots of the classes; the array classes by kind; where the static arrays, the script and the new cells lie -/
abbrev sGw : Type := va_G × (Nat → ClassId) × (Nat → Nat)
def ad (G : sGw) (i : Nat) : Nat := if i < 3 then G.2.2 i else G.2.2 3 + (i - 3)
def sh (G : sGw) (v : Value) : Value := match v with
  | .ref a => .ref (ad G a)
  | v => v
theorem sh_cat (G : sGw) (v : Value) : (sh G v).category = v.category := by cases v <;> rfl
theorem sh_int (G : sGw) (x : Int32) : sh G (.int x) = .int x := rfl
theorem sh_long (G : sGw) (x : Int64) : sh G (.long x) = .long x := rfl
theorem sh_ref (G : sGw) (x : Nat) : sh G (.ref x) = .ref (ad G x) := rfl
theorem sh_sum (G : sGw) (st : List Value) : ((st.map (sh G)).map fun v => v.category).sum = (st.map fun v => v.category).sum := by
  rw [List.map_map]
  congr 1
  exact List.map_congr_left fun v _ => sh_cat G v
def tysG (G : sGw) : List (ClassId × FieldType) := [(G.2.1 6, .int), (G.2.1 7, .boolean), (G.2.1 8, .object "EvenWords$Walk"), (G.2.1 9, .object "EvenWords$Wire")]
def aG (G : sGw) : Nat → Prop := fun q => G.2.2 3 ≤ q
def cvE (G : sGw) (μ : mM) (i : Nat) : va_E :=
  if kd μ.1 i < 5 then .inr (kd μ.1 i, (List.range (ln μ.1 i)).map (fun k => sh G (μ.2.1 i k)))
  else if kd μ.1 i < 8 then .inl (G.2.1 (kd μ.1 i), ln μ.1 i, .inl (μ.2.2.1 i))
  else .inl (G.2.1 (kd μ.1 i), ln μ.1 i, .inr (.inr (.inr (.inr (fun j => (μ.2.2.2 i j).map (ad G))))))
def wsG (G : sGw) (μ : mM) : va_W := (List.range (μ.1.1 - 3)).map (fun j => (G.2.2 3 + j, cvE G μ (j + 3)))
def lyOK (t : mL) : Prop := 3 ≤ t.1 ∧ (∀ i, i < 3 → kd t i = 10) ∧ (∀ i, 3 ≤ i → i < t.1 → kd t i < 10 ∧ (kd t i < 5 → ln t i = nfOf (kd t i))) ∧ ∀ i, t.1 ≤ i → kd t i = 99
theorem wsG_get {G : sGw} {μ : mM} {a : Nat} (h3 : 3 ≤ a) (hN : a < μ.1.1) : (wsG G μ)[a - 3]? = some (ad G a, cvE G μ a) := by
  have h1 : a - 3 < μ.1.1 - 3 := by omega
  simp only [wsG, List.getElem?_map, List.getElem?_range h1, Option.map_some, ad, if_neg (show ¬ a < 3 by omega), show a - 3 + 3 = a by omega]
theorem wsG_D (G : sGw) (μ : mM) : va_D (aG G) (wsG G μ) := by
  have key : ∀ (k : Nat) (q : Nat × va_E), (wsG G μ)[k]? = some q → q.1 = G.2.2 3 + k := by
    intro k q h
    simp only [wsG, List.getElem?_map, Option.map_eq_some_iff] at h
    obtain ⟨j, hj, e⟩ := h
    have hk : k < (List.range (μ.1.1 - 3)).length := (List.getElem?_eq_some_iff.mp hj).1
    rw [List.length_range] at hk
    rw [List.getElem?_range hk] at hj
    cases hj
    rw [← e]
  refine ⟨fun i j p q hi hj e => ?_, fun k q h => ?_⟩
  · rw [key i p hi, key j q hj] at e
    omega
  · show G.2.2 3 ≤ q.1
    rw [key k q h]
    omega
/-- a cell is written -/
theorem wsG_set {G : sGw} {μ μ1 : mM} {a : Nat} (h3 : 3 ≤ a) (hN : a < μ.1.1) (ht : μ1.1.1 = μ.1.1) (ho : ∀ i, i ≠ a → cvE G μ1 i = cvE G μ i) : (wsG G μ).set (a - 3) (ad G a, cvE G μ1 a) = wsG G μ1 := by
  apply List.ext_getElem?
  intro k
  rw [List.getElem?_set]
  have hl : (wsG G μ).length = μ.1.1 - 3 := by simp [wsG]
  by_cases hk : a - 3 = k
  · subst hk
    rw [if_pos rfl, if_pos (by rw [hl]; omega), wsG_get h3 (by rw [ht]; exact hN)]
  · rw [if_neg hk]
    simp only [wsG, List.getElem?_map, ht]
    by_cases h : k < μ.1.1 - 3
    · rw [List.getElem?_range h]
      simp only [Option.map_some]
      rw [ho (k + 3) (by omega)]
    · rw [List.getElem?_eq_none (by simp; omega)]
      rfl
/-- a cell is made -/
theorem wsG_push {G : sGw} {μ μ1 : mM} (h3 : 3 ≤ μ.1.1) (ht : μ1.1.1 = μ.1.1 + 1) (ho : ∀ i, i ≠ μ.1.1 → cvE G μ1 i = cvE G μ i) : wsG G μ ++ [(ad G μ.1.1, cvE G μ1 μ.1.1)] = wsG G μ1 := by
  have e : μ1.1.1 - 3 = (μ.1.1 - 3) + 1 := by omega
  simp only [wsG, e, List.range_succ, List.map_append, List.map_cons, List.map_nil]
  congr 1
  · apply List.map_congr_left
    intro j hj
    rw [List.mem_range] at hj
    rw [ho (j + 3) (by omega)]
  · rw [show μ.1.1 - 3 + 3 = μ.1.1 by omega]
    simp only [ad, if_neg (show ¬ μ.1.1 < 3 by omega)]
/-- what isn't written lies outside -/
def rE (G : sGw) (μ : mM) (U : State) : Prop :=
  (∀ i, i < 3 → va_T .int (ad G i) (ln μ.1 i) (fun j => .int (μ.2.2.1 i j)) (aG G) U U.heap) ∧
  va_Z "EvenWords$Forms" "AS_A" "[I" (.ref (ad G 0)) (aG G) U U.heap ∧ va_Z "EvenWords$Forms" "MEANS" "[I" (.ref (ad G 1)) (aG G) U U.heap ∧
  va_AO "EvenWords$Walk" U ∧ va_AO "EvenWords$Wire" U ∧ ∀ q ∈ mvC, q.2.2.2.1 = true → va_Nw (nestW q) U
theorem rE.move {G : sGw} {μ : mM} {s U : State} {H : Heap} {locs : List Loc} (h : rE G μ s) (hS : va_S (aG G) s.heap H locs) (hU : U.heap = H) (hW : s.WarmedH U.vm) : rE G μ U := by
  obtain ⟨h1, h2, h3, h4, h5, h6⟩ := h
  have hk : ∀ a : Nat, a < s.heap.size → ¬ aG G a → U.heap[a]? = s.heap[a]? := fun a q1 q2 => by rw [hU]; exact hS.2.1 a q1 q2
  refine ⟨fun i hi => ((h1 i hi).kept hk).moved hW.alike, (h2.kept hk).moved hW.alike, (h3.kept hk).moved hW.alike, h4.moved hW.alike, h5.moved hW.alike, fun q hq hn => ?_⟩
  exact va_Nw.warmM hW (h6 q hq hn)
theorem rE.of {G : sGw} {μ μ1 : mM} {s : State} (h : rE G μ s) (hr : ∀ i, i < 3 → μ1.2.2.1 i = μ.2.2.1 i ∧ ln μ1.1 i = ln μ.1 i) : rE G μ1 s := by
  refine ⟨fun i hi => ?_, h.2⟩
  rw [(hr i hi).1, (hr i hi).2]
  exact h.1 i hi
/-- the world -/
def wd (G : sGw) (μ : mM) (U : State) : Prop := lyOK μ.1 ∧ U.heap.size = G.2.2 3 + (μ.1.1 - 3) ∧ va_P G.1 vwCl (wsG G μ) U.heap ∧ va_K G.1 vwCl (tysG G) U ∧ rE G μ U
/-- what a run keeps: cells and slots only grow, what is only read stays -/
def kept (μ μ1 : mM) : Prop := lyOK μ1.1 ∧ μ.1.1 ≤ μ1.1.1 ∧ μ.1.2.1 ≤ μ1.1.2.1 ∧ ∀ i, i < 3 → μ1.2.2.1 i = μ.2.2.1 i ∧ ln μ1.1 i = ln μ.1 i
theorem kept.rf {μ : mM} (h : lyOK μ.1) : kept μ μ := ⟨h, Nat.le_refl _, Nat.le_refl _, fun _ _ => ⟨rfl, rfl⟩⟩
theorem kept.tr {μ μ1 μ2 : mM} (h : kept μ μ1) (g : kept μ1 μ2) : kept μ μ2 := ⟨g.1, Nat.le_trans h.2.1 g.2.1, Nat.le_trans h.2.2.1 g.2.2.1, fun i hi => ⟨((g.2.2.2 i hi).1).trans (h.2.2.2 i hi).1, ((g.2.2.2 i hi).2).trans (h.2.2.2 i hi).2⟩⟩
theorem lyOK.ro {t : mL} (h : lyOK t) {a : Nat} (hk : kd t a < 10) : 3 ≤ a ∧ a < t.1 := by
  constructor
  · apply Nat.not_lt.mp
    intro q
    have := h.2.1 a q
    omega
  · apply Nat.not_le.mp
    intro q
    have := h.2.2.2 a q
    omega
theorem lyOK.push {N S n c : Nat} {K : Nat → Nat × Nat} (h : lyOK (N, S, K)) (hc : c < 10) (hn : c < 5 → n = nfOf c) (S' : Nat) : lyOK (N + 1, S', up1 K N (c, n)) := by
  obtain ⟨h1, h2, h3, h4⟩ := h
  have e : ∀ i, i ≠ N → kd (N + 1, S', up1 K N (c, n)) i = kd (N, S, K) i ∧ ln (N + 1, S', up1 K N (c, n)) i = ln (N, S, K) i := fun i hi => by simp [kd, ln, up1, hi]
  have e0 : kd (N + 1, S', up1 K N (c, n)) N = c ∧ ln (N + 1, S', up1 K N (c, n)) N = n := by simp [kd, ln, up1]
  have h1' : 3 ≤ N := h1
  refine ⟨Nat.le_succ_of_le h1, fun i hi => ?_, fun i hi hN => ?_, fun i hi => ?_⟩
  · rw [(e i (by omega)).1]; exact h2 i hi
  · by_cases q : i = N
    · subst q
      rw [e0.1, e0.2]
      exact ⟨hc, hn⟩
    · rw [(e i q).1, (e i q).2]
      exact h3 i hi (by have : i < N + 1 := hN; show i < N; omega)
  · have : N + 1 ≤ i := hi
    rw [(e i (by omega)).1]
    exact h4 i (by show N ≤ i; omega)
theorem kept.push {N S n c S' : Nat} {K : Nat → Nat × Nat} {V V' : Nat → Nat → Value} {A A' : Nat → Nat → Int32} {P P' : Nat → Nat → Option Nat} (h : lyOK (N, S, K)) (hc : c < 10) (hn : c < 5 → n = nfOf c) (hS : S ≤ S') (hA : ∀ i, i < 3 → A' i = A i) : kept ((N, S, K), V, A, P) ((N + 1, S', up1 K N (c, n)), V', A', P') := by
  refine ⟨h.push hc hn S', Nat.le_succ N, hS, fun i hi => ⟨hA i hi, ?_⟩⟩
  have : 3 ≤ N := h.1
  have hne : i ≠ N := by omega
  simp [ln, up1, hne]
theorem next_kept {M pc pc1 : Nat} {i : Instr} {L st L1 st1 : List Value} {μ μ1 : mM} (h : mNext M i pc L st μ = some (pc1, L1, st1, μ1)) (hl : lyOK μ.1) : kept μ μ1 := by
  obtain ⟨⟨N, S, K⟩, V, A, P⟩ := μ
  have rf : kept ((N, S, K), V, A, P) ((N, S, K), V, A, P) := kept.rf hl
  have h3 : 3 ≤ N := hl.1
  cases i
  case iastore =>
    simp only [mNext] at h
    split at h
    · split at h
      · rename_i a _ hc
        cases h
        refine ⟨hl, Nat.le_refl _, Nat.le_refl _, fun j hj => ⟨?_, rfl⟩⟩
        have h6 : kd (N, S, K) a = 6 := hc.1
        have := (hl.ro (a := a) (by rw [h6]; omega)).1
        show up1 A a _ j = A j
        simp [up1, show j ≠ a by omega]
      · cases h
    · cases h
  case bastore =>
    simp only [mNext] at h
    split at h
    · split at h
      · rename_i a _ hc
        cases h
        refine ⟨hl, Nat.le_refl _, Nat.le_refl _, fun j hj => ⟨?_, rfl⟩⟩
        have h6 : kd (N, S, K) a = 7 := hc.1
        have := (hl.ro (a := a) (by rw [h6]; omega)).1
        show up1 A a _ j = A j
        simp [up1, show j ≠ a by omega]
      · cases h
    · cases h
  case putfield j =>
    simp only [mNext] at h
    split at h
    · split at h
      · cases h
        exact ⟨hl, Nat.le_refl _, Nat.le_refl _, fun _ _ => ⟨rfl, rfl⟩⟩
      · cases h
    · cases h
  case aastore =>
    simp only [mNext] at h
    split at h
    · split at h
      · cases h
        exact ⟨hl, Nat.le_refl _, Nat.le_refl _, fun _ _ => ⟨rfl, rfl⟩⟩
      · cases h
    · cases h
  case newarray t =>
    simp only [mNext] at h
    split at h
    · split at h
      · cases h
      · cases h
        exact kept.push hl (by omega) (by omega) (Nat.le_add_right _ _) (fun j hj => by simp [up1, show j ≠ N by omega])
    · split at h
      · cases h
      · cases h
        exact kept.push hl (by omega) (by omega) (Nat.le_add_right _ _) (fun j hj => by simp [up1, show j ≠ N by omega])
    · cases h
  case anewarray j =>
    simp only [mNext] at h
    split at h
    · split at h
      · cases h
      · rename_i hc
        cases h
        exact kept.push hl (by omega) (by omega) (Nat.le_add_right _ _) (fun _ _ => rfl)
    · cases h
  case new j =>
    simp only [mNext] at h
    split at h
    · split at h
      · cases h
        exact kept.push hl (by omega) (fun _ => rfl) (Nat.le_add_right _ _) (fun _ _ => rfl)
      · cases h
    · cases h
  all_goals (simp only [mNext] at h; (try repeat' (split at h)); all_goals (first | (cases h; exact rf) | (cases h; done)))
theorem xR_kept {R : Nat → List Value → mM → Option Value → mM → Prop} (hR : ∀ k a μ v μ1, R k a μ v μ1 → lyOK μ.1 → kept μ μ1) {M : Nat} : ∀ (n pc : Nat) (L st : List Value) (μ : mM) (v : Option Value) (μ' : mM), xR R M n pc L st μ v μ' → lyOK μ.1 → kept μ μ' := by
  intro n
  induction n with
  | zero => intro pc L st μ v μ' h; exact absurd h (by simp [xR])
  | succ n ih =>
    intro pc L st μ v μ' h hl
    obtain ⟨i, len, -, -, h⟩ := h
    rcases h with ⟨-, h⟩ | ⟨pc1, L1, st1, μ1, h, h2⟩ | ⟨k, a, r, v1, μ1, -, -, h, h2⟩
    · rw [h]; exact kept.rf hl
    · have k1 := next_kept h hl
      exact k1.tr (ih _ _ _ _ _ _ h2 k1.1)
    · have k1 := hR _ _ _ _ _ h hl
      exact k1.tr (ih _ _ _ _ _ _ h2 k1.1)
theorem run_kept : ∀ (d k : Nat) (a : List Value) (μ : mM) (v : Option Value) (μ1 : mM), run d k a μ v μ1 → lyOK μ.1 → kept μ μ1 := by
  intro d
  induction d with
  | zero => intro k a μ v μ1 h; exact absurd h (by simp [run])
  | succ d ih =>
    intro k a μ v μ1 h hl
    obtain ⟨-, -, n, h⟩ := h
    exact xR_kept ih _ _ _ _ _ _ _ h hl
/-- the locals -/
def lr (G : sGw) (nL : Nat) (L : List Value) (ls : Array Slot) : Prop := L.length = nL ∧ ls.size = nL ∧ lv_wf ls ∧ ∀ (i : Nat) (v : Value), L[i]? = some v → v ≠ .null → ls[i]? = some (.val (sh G v))
def prs (G : sGw) (L : List Value) : List (Nat × Value) := (List.range L.length).filterMap (fun i => match L[i]? with
  | some Value.null => none
  | some v => some (i, sh G v)
  | none => none)
theorem prs_mem {G : sGw} {L : List Value} {q : Nat × Value} : q ∈ prs G L ↔ ∃ v, L[q.1]? = some v ∧ v ≠ .null ∧ q.2 = sh G v := by
  simp only [prs, List.mem_filterMap, List.mem_range]
  constructor
  · rintro ⟨i, hi, h⟩
    split at h
    · cases h
    · rename_i v hv hne
      cases h
      exact ⟨v, hne, hv, rfl⟩
    · cases h
  · rintro ⟨v, h1, h2, h3⟩
    refine ⟨q.1, (List.getElem?_eq_some_iff.mp h1).1, ?_⟩
    rw [h1]
    cases v <;> first | (exact absurd rfl h2) | (show some (q.1, _) = some q; rw [← h3])
theorem lr.has {G : sGw} {nL : Nat} {L : List Value} {ls : Array Slot} (h : lr G nL L ls) : lv_has ls nL (prs G L) := by
  refine ⟨h.2.1, h.2.2.1, fun q hq => ?_⟩
  obtain ⟨v, h1, h2, h3⟩ := prs_mem.mp hq
  rw [h3]
  exact h.2.2.2 _ _ h1 h2
theorem stOK_lt {L : List Value} {i : Nat} (h : stOK L i = true) : i < L.length := by
  simp only [stOK, Bool.and_eq_true, decide_eq_true_eq] at h
  exact h.1
theorem stOK_cat {L : List Value} {i j : Nat} {v : Value} (h : stOK L i = true) (hj : j + 1 = i) (hv : L[j]? = some v) : v.category = 1 := by
  subst hj
  simp only [stOK, Bool.and_eq_true, decide_eq_true_eq, List.getD_eq_getElem?_getD] at h
  rw [hv] at h
  exact h.2
theorem lr.set {G : sGw} {nL i : Nat} {L : List Value} {ls ls' : Array Slot} {v : Value} (h : lr G nL L ls) (hi : stOK L i = true) (h' : lv_has ls' nL ((i, sh G v) :: (prs G L).filter (fun q => !(q.1 == i) && !(q.1 + 1 == i && q.2.category == 2)))) : lr G nL (L.set i v) ls' := by
  refine ⟨by rw [List.length_set]; exact h.1, h'.1, h'.2.1, fun j w hj hw => ?_⟩
  rw [List.getElem?_set] at hj
  by_cases hij : i = j
  · subst hij
    rw [if_pos rfl, if_pos (stOK_lt hi)] at hj
    cases hj
    exact h'.2.2 (i, sh G v) List.mem_cons_self
  · rw [if_neg hij] at hj
    refine h'.2.2 (j, sh G w) (List.mem_cons_of_mem _ (List.mem_filter.mpr ⟨prs_mem.mpr ⟨w, hj, hw, rfl⟩, ?_⟩))
    have h1 : (j == i) = false := by simp; omega
    simp only [h1, Bool.not_false, Bool.true_and]
    by_cases h2 : j + 1 = i
    · have := stOK_cat hi h2 hj
      rw [sh_cat, this]
      simp
    · have h3 : (j + 1 == i) = false := by simp; omega
      rw [h3]; rfl
theorem lr.set2 {G : sGw} {nL i : Nat} {L : List Value} {ls ls' : Array Slot} {v : Value} (h : lr G nL L ls) (hi : stOK L i = true) (h' : lv_has ls' nL ((i, sh G v) :: (prs G L).filter (fun q => !(q.1 == i) && (!(q.1 == i + 1) && !(q.1 + 1 == i && q.2.category == 2))))) : lr G nL ((L.set i v).set (i + 1) .null) ls' := by
  refine ⟨by rw [List.length_set, List.length_set]; exact h.1, h'.1, h'.2.1, fun j w hj hw => ?_⟩
  rw [List.getElem?_set] at hj
  by_cases hij1 : i + 1 = j
  · subst hij1
    rw [if_pos rfl] at hj
    split at hj
    · cases hj; exact absurd rfl hw
    · cases hj
  rw [if_neg hij1, List.getElem?_set] at hj
  by_cases hij : i = j
  · subst hij
    rw [if_pos rfl, if_pos (stOK_lt hi)] at hj
    cases hj
    exact h'.2.2 (i, sh G v) List.mem_cons_self
  · rw [if_neg hij] at hj
    refine h'.2.2 (j, sh G w) (List.mem_cons_of_mem _ (List.mem_filter.mpr ⟨prs_mem.mpr ⟨w, hj, hw, rfl⟩, ?_⟩))
    have h1 : (j == i) = false := by simp; omega
    have h1' : (j == i + 1) = false := by simp; omega
    simp only [h1, h1', Bool.not_false, Bool.true_and]
    by_cases h2 : j + 1 = i
    · have := stOK_cat hi h2 hj
      rw [sh_cat, this]
      simp
    · have h3 : (j + 1 == i) = false := by simp; omega
      rw [h3]; rfl
theorem lr.at {G : sGw} {nL i : Nat} {L : List Value} {ls : Array Slot} {v : Value} (h : lr G nL L ls) (hi : L[i]? = some v) (hv : v ≠ .null) : ls[i]? = some (.val (sh G v)) := h.2.2.2 _ _ hi hv
theorem inB_vp {i : Int32} {n : Nat} (h : inB i n = true) : vp_in i n := vp_in_iff.mpr (by simpa [inB] using h)
