/-! THE SMALL MACHINE'S RULES, as equations -/
def iI (z : Int) : Int32 := Int32.ofInt z
theorem iI0 : iI 0 = 0 := by decide +kernel
def isB (x : Int32) : Prop := x = 0 ∨ x = 1
section EV
variable {d M pc len : Nat} {L st : List Value} {μ : mM} {Q : Option Value → mM → Prop} {t : mL} {V : Nat → Nat → Value} {A : Nat → Nat → Int32} {P : Nat → Nat → Option Nat}
theorem ev_next {i : Instr} {pc1 : Nat} {L1 st1 : List Value} {μ1 : mM} (hd : decode (bOf M) pc = .ok (i, len)) (hl : lenOK i len) (hr : mRet M i st = none) (hc : mCall M i st μ.1 = none) (hn : mNext M i pc L st μ = some (pc1, L1, st1, μ1)) : Ev d M pc L st μ Q = Ev d M pc1 L1 st1 μ1 Q := by
  apply propext
  constructor
  · rintro ⟨n, v, μ', h, hq⟩
    cases n with
    | zero => exact absurd h (by simp [xR])
    | succ n =>
      obtain ⟨i', len', hd', -, h⟩ := h
      rw [hd] at hd'
      cases hd'
      rcases h with ⟨h, -⟩ | ⟨a, b, c, e, h, h2⟩ | ⟨k, a, r, v1, μ1, h, -⟩
      · rw [hr] at h; cases h
      · rw [hn] at h
        cases h
        exact ⟨n, v, μ', h2, hq⟩
      · rw [hc] at h; cases h
  · rintro ⟨n, v, μ', h, hq⟩
    exact ⟨n + 1, v, μ', ⟨i, len, hd, hl, Or.inr (Or.inl ⟨_, _, _, _, hn, h⟩)⟩, hq⟩
theorem ev_ret {i : Instr} {v0 : Option Value} (hd : decode (bOf M) pc = .ok (i, len)) (hl : lenOK i len) (hr : mRet M i st = some v0) (hc : mCall M i st μ.1 = none) (hn : mNext M i pc L st μ = none) : Ev d M pc L st μ Q = Q v0 μ := by
  apply propext
  constructor
  · rintro ⟨n, v, μ', h, hq⟩
    cases n with
    | zero => exact absurd h (by simp [xR])
    | succ n =>
      obtain ⟨i', len', hd', -, h⟩ := h
      rw [hd] at hd'
      cases hd'
      rcases h with ⟨h, h2⟩ | ⟨a, b, c, e, h, h2⟩ | ⟨k, a, r, v1, μ1, h, -⟩
      · rw [hr] at h; cases h; rw [← h2]; exact hq
      · rw [hn] at h; cases h
      · rw [hc] at h; cases h
  · intro h
    exact ⟨1, v0, μ, ⟨i, len, hd, hl, Or.inl ⟨hr, rfl⟩⟩, h⟩
theorem ev_call {i : Instr} {k : Nat} {a r : List Value} (hd : decode (bOf M) pc = .ok (i, len)) (hl : lenOK i len) (hr : mRet M i st = none) (hc : mCall M i st μ.1 = some (k, a, r)) (hs : (r.map fun v => v.category).sum ≤ 8) (hn : mNext M i pc L st μ = none) : Ev d M pc L st μ Q = Call d k a μ (fun v μ1 => Ev d M (pc + 3) L (v.toList ++ r) μ1 Q) := by
  apply propext
  constructor
  · rintro ⟨n, v, μ', h, hq⟩
    cases n with
    | zero => exact absurd h (by simp [xR])
    | succ n =>
      obtain ⟨i', len', hd', -, h⟩ := h
      rw [hd] at hd'
      cases hd'
      rcases h with ⟨h, h2⟩ | ⟨a, b, c, e, h, h2⟩ | ⟨k, a, r, v1, μ1, h, -, h2, h3⟩
      · rw [hr] at h; cases h
      · rw [hn] at h; cases h
      · rw [hc] at h; cases h; exact ⟨v1, μ1, h2, n, v, μ', h3, hq⟩
  · rintro ⟨v1, μ1, h1, n, v, μ', h, hq⟩
    exact ⟨n + 1, v, μ', ⟨i, len, hd, hl, Or.inr (Or.inr ⟨k, a, r, v1, μ1, hc, hs, h1, h⟩)⟩, hq⟩
theorem call_ev {k : Nat} {a : List Value} (h : a.length = naOf k) (h9 : Nat.ble (exL a).length (mlOf k) = true) : Call (d + 1) k a μ Q = Ev d k 0 (enL k a) [] μ Q := by
  apply propext
  constructor
  · rintro ⟨v, μ', ⟨-, -, n, h1⟩, hq⟩
    exact ⟨n, v, μ', h1, hq⟩
  · rintro ⟨n, v, μ', h1, hq⟩
    exact ⟨v, μ', ⟨h, h9, n, h1⟩, hq⟩
theorem ev_mono {Q' : Option Value → mM → Prop} (h : Ev d M pc L st μ Q) (hQ : ∀ v μ', Q v μ' → Q' v μ') : Ev d M pc L st μ Q' := by
  obtain ⟨n, v, μ', h1, h2⟩ := h
  exact ⟨n, v, μ', h1, hQ _ _ h2⟩
theorem call_mono {k : Nat} {a : List Value} {Q' : Option Value → mM → Prop} (h : Call d k a μ Q) (hQ : ∀ v μ', Q v μ' → Q' v μ') : Call d k a μ Q' := by
  obtain ⟨v, μ', h1, h2⟩ := h
  exact ⟨v, μ', h1, hQ _ _ h2⟩
theorem cat_le (l : List Value) : (l.map fun v => v.category).sum ≤ 2 * l.length := by
  induction l with
  | nil => exact Nat.le_refl _
  | cons a l ih =>
    have h : a.category ≤ 2 := by cases a <;> simp [Value.category]
    simp only [List.map_cons, List.sum_cons, List.length_cons]
    omega
theorem cat_4 {l : List Value} (h : l.length ≤ 4) : (l.map fun v => v.category).sum ≤ 8 := Nat.le_trans (cat_le l) (by omega)
-- constants, locals
theorem e_iconst {c : Int} (hd : decode (bOf M) pc = .ok (.iconst c, 1)) : Ev d M pc L st μ Q = Ev d M (pc + 1) L (.int (Int32.ofInt c) :: st) μ Q := ev_next hd rfl rfl rfl rfl
theorem e_bipush {c : Int} {x : Int32} (hd : decode (bOf M) pc = .ok (.bipush c, 2)) (hx : (Int8.ofInt c).toInt32 = x) : Ev d M pc L st μ Q = Ev d M (pc + 2) L (.int x :: st) μ Q := ev_next hd rfl rfl rfl (by rw [← hx]; rfl)
theorem e_sipush {c : Int} {x : Int32} (hd : decode (bOf M) pc = .ok (.sipush c, 3)) (hx : (Int16.ofInt c).toInt32 = x) : Ev d M pc L st μ Q = Ev d M (pc + 3) L (.int x :: st) μ Q := ev_next hd rfl rfl rfl (by rw [← hx]; rfl)
theorem e_lconst {n : Fin 2} (hd : decode (bOf M) pc = .ok (.lconst n, 1)) : Ev d M pc L st μ Q = Ev d M (pc + 1) L (.long (Int64.ofNat (n : Nat)) :: st) μ Q := ev_next hd rfl rfl rfl rfl
theorem e_ldc {j : Nat} {x : Int32} (hd : decode (bOf M) pc = .ok (.ldc j, 2)) (hx : mvKi (oOf M) j = some x) : Ev d M pc L st μ Q = Ev d M (pc + 2) L (.int x :: st) μ Q := ev_next hd rfl rfl rfl (by simp only [mNext, hx])
theorem e_ldc_w {j : Nat} {x : Int32} (hd : decode (bOf M) pc = .ok (.ldc_w j, 3)) (hx : mvKi (oOf M) j = some x) : Ev d M pc L st μ Q = Ev d M (pc + 3) L (.int x :: st) μ Q := ev_next hd rfl rfl rfl (by simp only [mNext, hx])
theorem e_ldc2_w {j : Nat} {x : Int64} (hd : decode (bOf M) pc = .ok (.ldc2_w j, 3)) (hx : mvKli (oOf M) j = some x) : Ev d M pc L st μ Q = Ev d M (pc + 3) L (.long x :: st) μ Q := ev_next hd rfl rfl rfl (by simp only [mNext, hx])
theorem e_iload_n {k : Fin 4} {x : Int32} (hd : decode (bOf M) pc = .ok (.iload_n k, 1)) (h : L[(k : Nat)]? = some (.int x)) : Ev d M pc L st μ Q = Ev d M (pc + 1) L (.int x :: st) μ Q := ev_next hd rfl rfl rfl (by simp only [mNext, h])
theorem e_iload {k : Nat} {x : Int32} (hd : decode (bOf M) pc = .ok (.iload k, 2)) (h : L[k]? = some (.int x)) : Ev d M pc L st μ Q = Ev d M (pc + 2) L (.int x :: st) μ Q := ev_next hd rfl rfl rfl (by simp only [mNext, h])
theorem e_aload_n {k : Fin 4} {x : Nat} (hd : decode (bOf M) pc = .ok (.aload_n k, 1)) (h : L[(k : Nat)]? = some (.ref x)) : Ev d M pc L st μ Q = Ev d M (pc + 1) L (.ref x :: st) μ Q := ev_next hd rfl rfl rfl (by simp only [mNext, h])
theorem e_aload {k : Nat} {x : Nat} (hd : decode (bOf M) pc = .ok (.aload k, 2)) (h : L[k]? = some (.ref x)) : Ev d M pc L st μ Q = Ev d M (pc + 2) L (.ref x :: st) μ Q := ev_next hd rfl rfl rfl (by simp only [mNext, h])
theorem e_lload_n {k : Fin 4} {x : Int64} (hd : decode (bOf M) pc = .ok (.lload_n k, 1)) (h : L[(k : Nat)]? = some (.long x)) : Ev d M pc L st μ Q = Ev d M (pc + 1) L (.long x :: st) μ Q := ev_next hd rfl rfl rfl (by simp only [mNext, h])
theorem e_lload {k : Nat} {x : Int64} (hd : decode (bOf M) pc = .ok (.lload k, 2)) (h : L[k]? = some (.long x)) : Ev d M pc L st μ Q = Ev d M (pc + 2) L (.long x :: st) μ Q := ev_next hd rfl rfl rfl (by simp only [mNext, h])
theorem e_istore_n {k : Fin 4} {x : Int32} (hd : decode (bOf M) pc = .ok (.istore_n k, 1)) (h : stOK L k = true) : Ev d M pc L (.int x :: st) μ Q = Ev d M (pc + 1) (L.set k (.int x)) st μ Q := ev_next hd rfl rfl rfl (by simp only [mNext, h, if_true])
theorem e_istore {k : Nat} {x : Int32} (hd : decode (bOf M) pc = .ok (.istore k, 2)) (h : stOK L k = true) : Ev d M pc L (.int x :: st) μ Q = Ev d M (pc + 2) (L.set k (.int x)) st μ Q := ev_next hd rfl rfl rfl (by simp only [mNext, h, if_true])
theorem e_astore_n {k : Fin 4} {x : Nat} (hd : decode (bOf M) pc = .ok (.astore_n k, 1)) (h : stOK L k = true) : Ev d M pc L (.ref x :: st) μ Q = Ev d M (pc + 1) (L.set k (.ref x)) st μ Q := ev_next hd rfl rfl rfl (by simp only [mNext, h, if_true])
theorem e_astore {k : Nat} {x : Nat} (hd : decode (bOf M) pc = .ok (.astore k, 2)) (h : stOK L k = true) : Ev d M pc L (.ref x :: st) μ Q = Ev d M (pc + 2) (L.set k (.ref x)) st μ Q := ev_next hd rfl rfl rfl (by simp only [mNext, h, if_true])
theorem e_lstore_n {k : Fin 4} {x : Int64} (hd : decode (bOf M) pc = .ok (.lstore_n k, 1)) (h : stOK L k = true ∧ (k : Nat) + 1 < L.length ∧ (L.getD (k + 1) .null).category = 1) : Ev d M pc L (.long x :: st) μ Q = Ev d M (pc + 1) ((L.set k (.long x)).set (k + 1) .null) st μ Q := ev_next hd rfl rfl rfl (by simp only [mNext]; exact if_pos h)
theorem e_lstore {k : Nat} {x : Int64} (hd : decode (bOf M) pc = .ok (.lstore k, 2)) (h : stOK L k = true ∧ (k : Nat) + 1 < L.length ∧ (L.getD (k + 1) .null).category = 1) : Ev d M pc L (.long x :: st) μ Q = Ev d M (pc + 2) ((L.set k (.long x)).set (k + 1) .null) st μ Q := ev_next hd rfl rfl rfl (by simp only [mNext]; exact if_pos h)
theorem e_iinc {k : Nat} {c : Int} {x : Int32} (hd : decode (bOf M) pc = .ok (.iinc k c, 3)) (h1 : L[k]? = some (.int x)) (h : stOK L k = true) : Ev d M pc L st μ Q = Ev d M (pc + 3) (L.set k (.int (x + Int32.ofInt c))) st μ Q := ev_next hd rfl rfl rfl (by simp only [mNext, h1, h, if_true])
-- numbers
theorem e_iadd {x y : Int32} (hd : decode (bOf M) pc = .ok (.iadd, 1)) : Ev d M pc L (.int y :: .int x :: st) μ Q = Ev d M (pc + 1) L (.int (x + y) :: st) μ Q := ev_next hd rfl rfl rfl rfl
theorem e_isub {x y : Int32} (hd : decode (bOf M) pc = .ok (.isub, 1)) : Ev d M pc L (.int y :: .int x :: st) μ Q = Ev d M (pc + 1) L (.int (x - y) :: st) μ Q := ev_next hd rfl rfl rfl rfl
theorem e_imul {x y : Int32} (hd : decode (bOf M) pc = .ok (.imul, 1)) : Ev d M pc L (.int y :: .int x :: st) μ Q = Ev d M (pc + 1) L (.int (x * y) :: st) μ Q := ev_next hd rfl rfl rfl rfl
theorem e_idiv {x y : Int32} (hd : decode (bOf M) pc = .ok (.idiv, 1)) (h : ¬ y = 0) : Ev d M pc L (.int y :: .int x :: st) μ Q = Ev d M (pc + 1) L (.int (x / y) :: st) μ Q := ev_next hd rfl rfl rfl (if_neg h)
theorem e_irem {x y : Int32} (hd : decode (bOf M) pc = .ok (.irem, 1)) (h : ¬ y = 0) : Ev d M pc L (.int y :: .int x :: st) μ Q = Ev d M (pc + 1) L (.int (x - x / y * y) :: st) μ Q := ev_next hd rfl rfl rfl (if_neg h)
theorem e_ineg {x : Int32} (hd : decode (bOf M) pc = .ok (.ineg, 1)) : Ev d M pc L (.int x :: st) μ Q = Ev d M (pc + 1) L (.int (-x) :: st) μ Q := ev_next hd rfl rfl rfl rfl
theorem e_iand {x y : Int32} (hd : decode (bOf M) pc = .ok (.iand, 1)) : Ev d M pc L (.int y :: .int x :: st) μ Q = Ev d M (pc + 1) L (.int (x &&& y) :: st) μ Q := ev_next hd rfl rfl rfl rfl
theorem e_ior {x y : Int32} (hd : decode (bOf M) pc = .ok (.ior, 1)) : Ev d M pc L (.int y :: .int x :: st) μ Q = Ev d M (pc + 1) L (.int (x ||| y) :: st) μ Q := ev_next hd rfl rfl rfl rfl
theorem e_ixor {x y : Int32} (hd : decode (bOf M) pc = .ok (.ixor, 1)) : Ev d M pc L (.int y :: .int x :: st) μ Q = Ev d M (pc + 1) L (.int (x ^^^ y) :: st) μ Q := ev_next hd rfl rfl rfl rfl
theorem e_ishl {x y : Int32} (hd : decode (bOf M) pc = .ok (.ishl, 1)) : Ev d M pc L (.int y :: .int x :: st) μ Q = Ev d M (pc + 1) L (.int (x <<< (y &&& 31)) :: st) μ Q := ev_next hd rfl rfl rfl rfl
theorem e_ishr {x y : Int32} (hd : decode (bOf M) pc = .ok (.ishr, 1)) : Ev d M pc L (.int y :: .int x :: st) μ Q = Ev d M (pc + 1) L (.int (x >>> (y &&& 31)) :: st) μ Q := ev_next hd rfl rfl rfl rfl
theorem e_iushr {x y : Int32} (hd : decode (bOf M) pc = .ok (.iushr, 1)) : Ev d M pc L (.int y :: .int x :: st) μ Q = Ev d M (pc + 1) L (.int (x.toUInt32 >>> (y.toUInt32 &&& Int32.toUInt32 31)).toInt32 :: st) μ Q := ev_next hd rfl rfl rfl rfl
theorem e_i2l {x : Int32} (hd : decode (bOf M) pc = .ok (.i2l, 1)) : Ev d M pc L (.int x :: st) μ Q = Ev d M (pc + 1) L (.long x.toInt64 :: st) μ Q := ev_next hd rfl rfl rfl rfl
theorem e_l2i {x : Int64} (hd : decode (bOf M) pc = .ok (.l2i, 1)) : Ev d M pc L (.long x :: st) μ Q = Ev d M (pc + 1) L (.int x.toInt32 :: st) μ Q := ev_next hd rfl rfl rfl rfl
theorem e_ladd {x y : Int64} (hd : decode (bOf M) pc = .ok (.ladd, 1)) : Ev d M pc L (.long y :: .long x :: st) μ Q = Ev d M (pc + 1) L (.long (x + y) :: st) μ Q := ev_next hd rfl rfl rfl rfl
theorem e_lmul {x y : Int64} (hd : decode (bOf M) pc = .ok (.lmul, 1)) : Ev d M pc L (.long y :: .long x :: st) μ Q = Ev d M (pc + 1) L (.long (x * y) :: st) μ Q := ev_next hd rfl rfl rfl rfl
theorem e_lcmp {x y : Int64} (hd : decode (bOf M) pc = .ok (.lcmp, 1)) : Ev d M pc L (.long y :: .long x :: st) μ Q = Ev d M (pc + 1) L (.int (lg_cmp x y) :: st) μ Q := ev_next hd rfl rfl rfl rfl
theorem e_dup_i {x : Int32} (hd : decode (bOf M) pc = .ok (.dup, 1)) : Ev d M pc L (.int x :: st) μ Q = Ev d M (pc + 1) L (.int x :: .int x :: st) μ Q := ev_next hd rfl rfl rfl rfl
theorem e_dup_a {x : Nat} (hd : decode (bOf M) pc = .ok (.dup, 1)) : Ev d M pc L (.ref x :: st) μ Q = Ev d M (pc + 1) L (.ref x :: .ref x :: st) μ Q := ev_next hd rfl rfl rfl rfl
theorem e_dup2 {x : Int32} {y : Nat} (hd : decode (bOf M) pc = .ok (.dup2, 1)) : Ev d M pc L (.int x :: .ref y :: st) μ Q = Ev d M (pc + 1) L (.int x :: .ref y :: .int x :: .ref y :: st) μ Q := ev_next hd rfl rfl rfl rfl
theorem e_pop {x : Int32} (hd : decode (bOf M) pc = .ok (.pop, 1)) : Ev d M pc L (.int x :: st) μ Q = Ev d M (pc + 1) L st μ Q := ev_next hd rfl rfl rfl rfl
-- branches
theorem e_goto {off : Int} {q : Nat} (hd : decode (bOf M) pc = .ok (.goto off, 3)) (ht : (pc : Int) + off = (q : Int)) : Ev d M pc L st μ Q = Ev d M q L st μ Q := ev_next hd rfl rfl rfl (by simp [mNext, tgt, ht])
theorem e_ifnull {off : Int} {x : Nat} (hd : decode (bOf M) pc = .ok (.ifnull off, 3)) : Ev d M pc L (.ref x :: st) μ Q = Ev d M (pc + 3) L st μ Q := ev_next hd rfl rfl rfl rfl
theorem e_ifnonnull {off : Int} {x q : Nat} (hd : decode (bOf M) pc = .ok (.ifnonnull off, 3)) (ht : (pc : Int) + off = (q : Int)) : Ev d M pc L (.ref x :: st) μ Q = Ev d M q L st μ Q := ev_next hd rfl rfl rfl (by simp [mNext, tgt, ht])
theorem e_icmp {cd : Jvm.ClassFile.Cond} {off : Int} {q : Nat} {x y : Int32} (hd : decode (bOf M) pc = .ok (.if_icmp cd off, 3)) (ht : (pc : Int) + off = (q : Int)) : Ev d M pc L (.int y :: .int x :: st) μ Q = if mCmp cd x y = true then Ev d M q L st μ Q else Ev d M (pc + 3) L st μ Q := by
  have h0 : 0 ≤ (pc : Int) + off := by omega
  by_cases h : mCmp cd x y = true
  · rw [if_pos h]
    exact ev_next hd rfl rfl rfl (by simp [mNext, tgt, ht, h])
  · rw [if_neg h]
    exact ev_next hd rfl rfl rfl (by simp [mNext, h, h0])
theorem e_ifc {cd : Jvm.ClassFile.Cond} {off : Int} {q : Nat} {x : Int32} (hd : decode (bOf M) pc = .ok (.ifCond cd off, 3)) (ht : (pc : Int) + off = (q : Int)) : Ev d M pc L (.int x :: st) μ Q = if mCmp cd x 0 = true then Ev d M q L st μ Q else Ev d M (pc + 3) L st μ Q := by
  have h0 : 0 ≤ (pc : Int) + off := by omega
  by_cases h : mCmp cd x 0 = true
  · rw [if_pos h]
    exact ev_next hd rfl rfl rfl (by simp [mNext, tgt, ht, h])
  · rw [if_neg h]
    exact ev_next hd rfl rfl rfl (by simp [mNext, h, h0])
theorem e_icmp_eq {off : Int} {q : Nat} {x y : Int32} (hd : decode (bOf M) pc = .ok (.if_icmp .eq off, 3)) (ht : (pc : Int) + off = (q : Int)) : Ev d M pc L (.int y :: .int x :: st) μ Q = if x = y then Ev d M q L st μ Q else Ev d M (pc + 3) L st μ Q := by rw [e_icmp hd ht]; simp [mCmp]
theorem e_icmp_ne {off : Int} {q : Nat} {x y : Int32} (hd : decode (bOf M) pc = .ok (.if_icmp .ne off, 3)) (ht : (pc : Int) + off = (q : Int)) : Ev d M pc L (.int y :: .int x :: st) μ Q = if x = y then Ev d M (pc + 3) L st μ Q else Ev d M q L st μ Q := by rw [e_icmp hd ht]; simp [mCmp]
theorem e_icmp_lt {off : Int} {q : Nat} {x y : Int32} (hd : decode (bOf M) pc = .ok (.if_icmp .lt off, 3)) (ht : (pc : Int) + off = (q : Int)) : Ev d M pc L (.int y :: .int x :: st) μ Q = if x < y then Ev d M q L st μ Q else Ev d M (pc + 3) L st μ Q := by rw [e_icmp hd ht]; simp [mCmp]
theorem e_icmp_ge {off : Int} {q : Nat} {x y : Int32} (hd : decode (bOf M) pc = .ok (.if_icmp .ge off, 3)) (ht : (pc : Int) + off = (q : Int)) : Ev d M pc L (.int y :: .int x :: st) μ Q = if x < y then Ev d M (pc + 3) L st μ Q else Ev d M q L st μ Q := by
  rw [e_icmp hd ht]
  by_cases h : x < y
  · rw [if_pos h, if_neg (by simp [mCmp]; exact h)]
  · rw [if_neg h, if_pos (by simp [mCmp]; exact Int32.not_lt.mp h)]
theorem e_icmp_gt {off : Int} {q : Nat} {x y : Int32} (hd : decode (bOf M) pc = .ok (.if_icmp .gt off, 3)) (ht : (pc : Int) + off = (q : Int)) : Ev d M pc L (.int y :: .int x :: st) μ Q = if y < x then Ev d M q L st μ Q else Ev d M (pc + 3) L st μ Q := by rw [e_icmp hd ht]; simp [mCmp]
theorem e_icmp_le {off : Int} {q : Nat} {x y : Int32} (hd : decode (bOf M) pc = .ok (.if_icmp .le off, 3)) (ht : (pc : Int) + off = (q : Int)) : Ev d M pc L (.int y :: .int x :: st) μ Q = if y < x then Ev d M (pc + 3) L st μ Q else Ev d M q L st μ Q := by
  rw [e_icmp hd ht]
  by_cases h : y < x
  · rw [if_pos h, if_neg (by simp [mCmp]; exact h)]
  · rw [if_neg h, if_pos (by simp [mCmp]; exact Int32.not_lt.mp h)]
theorem e_if_eq {off : Int} {q : Nat} {x : Int32} (hd : decode (bOf M) pc = .ok (.ifCond .eq off, 3)) (ht : (pc : Int) + off = (q : Int)) : Ev d M pc L (.int x :: st) μ Q = if x = iI 0 then Ev d M q L st μ Q else Ev d M (pc + 3) L st μ Q := by rw [e_ifc hd ht, iI0]; simp [mCmp]
theorem e_if_ne {off : Int} {q : Nat} {x : Int32} (hd : decode (bOf M) pc = .ok (.ifCond .ne off, 3)) (ht : (pc : Int) + off = (q : Int)) : Ev d M pc L (.int x :: st) μ Q = if x = iI 0 then Ev d M (pc + 3) L st μ Q else Ev d M q L st μ Q := by rw [e_ifc hd ht, iI0]; simp [mCmp]
theorem e_if_lt {off : Int} {q : Nat} {x : Int32} (hd : decode (bOf M) pc = .ok (.ifCond .lt off, 3)) (ht : (pc : Int) + off = (q : Int)) : Ev d M pc L (.int x :: st) μ Q = if x < iI 0 then Ev d M q L st μ Q else Ev d M (pc + 3) L st μ Q := by rw [e_ifc hd ht, iI0]; simp [mCmp]
theorem e_if_ge {off : Int} {q : Nat} {x : Int32} (hd : decode (bOf M) pc = .ok (.ifCond .ge off, 3)) (ht : (pc : Int) + off = (q : Int)) : Ev d M pc L (.int x :: st) μ Q = if x < iI 0 then Ev d M (pc + 3) L st μ Q else Ev d M q L st μ Q := by
  rw [e_ifc hd ht, iI0]
  by_cases h : x < 0
  · rw [if_pos h, if_neg (by simp [mCmp]; exact h)]
  · rw [if_neg h, if_pos (by simp [mCmp]; exact Int32.not_lt.mp h)]
theorem e_if_gt {off : Int} {q : Nat} {x : Int32} (hd : decode (bOf M) pc = .ok (.ifCond .gt off, 3)) (ht : (pc : Int) + off = (q : Int)) : Ev d M pc L (.int x :: st) μ Q = if iI 0 < x then Ev d M q L st μ Q else Ev d M (pc + 3) L st μ Q := by rw [e_ifc hd ht, iI0]; simp [mCmp]
theorem e_if_le {off : Int} {q : Nat} {x : Int32} (hd : decode (bOf M) pc = .ok (.ifCond .le off, 3)) (ht : (pc : Int) + off = (q : Int)) : Ev d M pc L (.int x :: st) μ Q = if iI 0 < x then Ev d M (pc + 3) L st μ Q else Ev d M q L st μ Q := by
  rw [e_ifc hd ht, iI0]
  by_cases h : 0 < x
  · rw [if_pos h, if_neg (by simp [mCmp]; exact h)]
  · rw [if_neg h, if_pos (by simp [mCmp]; exact Int32.not_lt.mp h)]
-- memory
theorem e_getf {j ci k a : Nat} (hd : decode (bOf M) pc = .ok (.getfield j, 3)) (hf : mvFl (oOf M) j = some (ci, k)) (hn : k < nfOf ci) (hk : kd t a = ci) : Ev d M pc L (.ref a :: st) (t, V, A, P) Q = Ev d M (pc + 3) L (V a k :: st) (t, V, A, P) Q := ev_next hd rfl rfl rfl (by simp [mNext, hf, hn, hk])
theorem e_putf {j ci k a : Nat} {v : Value} (hd : decode (bOf M) pc = .ok (.putfield j, 3)) (hf : mvFl (oOf M) j = some (ci, k)) (hn : k < nfOf ci) (hm : mayPut M ci k v = true) (hk : kd t a = ci) : Ev d M pc L (v :: .ref a :: st) (t, V, A, P) Q = Ev d M (pc + 3) L st (t, up1 V a (up1 (V a) k v), A, P) Q := ev_next hd rfl rfl rfl (by simp [mNext, hf, hn, hk, hm])
theorem e_gets {j a : Nat} (hd : decode (bOf M) pc = .ok (.getstatic j, 3)) (hf : mvSl (oOf M) j = some a) : Ev d M pc L st μ Q = Ev d M (pc + 3) L (.ref a :: st) μ Q := ev_next hd rfl rfl rfl (by simp [mNext, hf])
theorem e_iald {a : Nat} {i : Int32} (hd : decode (bOf M) pc = .ok (.iaload, 1)) (hk : kd t a = 6) (hi : inB i (ln t a) = true) : Ev d M pc L (.int i :: .ref a :: st) (t, V, A, P) Q = Ev d M (pc + 1) L (.int (A a i.toNatClampNeg) :: st) (t, V, A, P) Q := ev_next hd rfl rfl rfl (by simp [mNext, hk, hi])
theorem e_iald_ro {a : Nat} {i : Int32} (hd : decode (bOf M) pc = .ok (.iaload, 1)) (hk : kd t a = 10) (hi : inB i (ln t a) = true) : Ev d M pc L (.int i :: .ref a :: st) (t, V, A, P) Q = Ev d M (pc + 1) L (.int (A a i.toNatClampNeg) :: st) (t, V, A, P) Q := ev_next hd rfl rfl rfl (by simp [mNext, hk, hi])
theorem e_bald {a : Nat} {i : Int32} (hd : decode (bOf M) pc = .ok (.baload, 1)) (hk : kd t a = 7) (hi : inB i (ln t a) = true) : Ev d M pc L (.int i :: .ref a :: st) (t, V, A, P) Q = Ev d M (pc + 1) L (.int (A a i.toNatClampNeg) :: st) (t, V, A, P) Q := ev_next hd rfl rfl rfl (by simp [mNext, hk, hi])
theorem e_iast {a : Nat} {i x : Int32} (hd : decode (bOf M) pc = .ok (.iastore, 1)) (hk : kd t a = 6) (hi : inB i (ln t a) = true) : Ev d M pc L (.int x :: .int i :: .ref a :: st) (t, V, A, P) Q = Ev d M (pc + 1) L st (t, V, up1 A a (upd (A a) i.toNatClampNeg x), P) Q := ev_next hd rfl rfl rfl (by simp [mNext, hk, hi])
theorem e_bast {a : Nat} {i x : Int32} (hd : decode (bOf M) pc = .ok (.bastore, 1)) (hk : kd t a = 7) (hi : inB i (ln t a) = true) (hx : isB x) : Ev d M pc L (.int x :: .int i :: .ref a :: st) (t, V, A, P) Q = Ev d M (pc + 1) L st (t, V, up1 A a (upd (A a) i.toNatClampNeg x), P) Q := ev_next hd rfl rfl rfl (by simp only [mNext]; exact if_pos ⟨hk, hi, hx⟩)
theorem e_aald {a : Nat} {i : Int32} (c : Nat) (hc : c = 8 ∨ c = 9) (hd : decode (bOf M) pc = .ok (.aaload, 1)) (hk : kd t a = c) (hi : inB i (ln t a) = true) : Ev d M pc L (.int i :: .ref a :: st) (t, V, A, P) Q = Ev d M (pc + 1) L (va_rf (P a i.toNatClampNeg) :: st) (t, V, A, P) Q := ev_next hd rfl rfl rfl (by rcases hc with rfl | rfl <;> simp [mNext, hk, hi])
theorem e_aast8 {a v : Nat} {i : Int32} (hd : decode (bOf M) pc = .ok (.aastore, 1)) (hk : kd t a = 8) (hv : kd t v = 2) (hi : inB i (ln t a) = true) : Ev d M pc L (.ref v :: .int i :: .ref a :: st) (t, V, A, P) Q = Ev d M (pc + 1) L st (t, V, A, up1 P a (up1 (P a) i.toNatClampNeg (some v))) Q := ev_next hd rfl rfl rfl (by simp [mNext, hk, hi, hv])
theorem e_aast9 {a v : Nat} {i : Int32} (hd : decode (bOf M) pc = .ok (.aastore, 1)) (hk : kd t a = 9) (hv : kd t v = 3) (hi : inB i (ln t a) = true) : Ev d M pc L (.ref v :: .int i :: .ref a :: st) (t, V, A, P) Q = Ev d M (pc + 1) L st (t, V, A, up1 P a (up1 (P a) i.toNatClampNeg (some v))) Q := ev_next hd rfl rfl rfl (by simp [mNext, hk, hi, hv])
theorem e_alen {a : Nat} (hd : decode (bOf M) pc = .ok (.arraylength, 1)) (hk : kd t a = 10) : Ev d M pc L (.ref a :: st) (t, V, A, P) Q = Ev d M (pc + 1) L (.int (Int32.ofNat (ln t a)) :: st) (t, V, A, P) Q := ev_next hd rfl rfl rfl (by simp [mNext, hk])
-- making
variable {N S : Nat} {K : Nat → Nat × Nat}
theorem e_newi {c : Int} (n : Nat) (hd : decode (bOf M) pc = .ok (.newarray .int, 2)) (h0 : ¬ (Int32.ofInt c < 0 ∨ 100000 ≤ (Int32.ofInt c).toNatClampNeg)) (hn : (Int32.ofInt c).toNatClampNeg = n) : Ev d M pc L (.int (Int32.ofInt c) :: st) ((N, S, K), V, A, P) Q = Ev d M (pc + 2) L (.ref N :: st) ((N + 1, S + n, up1 K N (6, n)), V, up1 A N (fun _ => 0), P) Q := ev_next hd rfl rfl rfl (by subst hn; simp only [mNext, h0, if_false])
theorem e_newz {c : Int} (n : Nat) (hd : decode (bOf M) pc = .ok (.newarray .boolean, 2)) (h0 : ¬ (Int32.ofInt c < 0 ∨ 100000 ≤ (Int32.ofInt c).toNatClampNeg)) (hn : (Int32.ofInt c).toNatClampNeg = n) : Ev d M pc L (.int (Int32.ofInt c) :: st) ((N, S, K), V, A, P) Q = Ev d M (pc + 2) L (.ref N :: st) ((N + 1, S + n, up1 K N (7, n)), V, up1 A N (fun _ => 0), P) Q := ev_next hd rfl rfl rfl (by subst hn; simp only [mNext, h0, if_false])
theorem e_newq {c : Int} {j ci : Nat} (n : Nat) (hd : decode (bOf M) pc = .ok (.anewarray j, 3)) (hj : mvNl (oOf M) j = some ci) (h0 : ¬ (Int32.ofInt c < 0 ∨ 100000 ≤ (Int32.ofInt c).toNatClampNeg ∨ ¬ (ci = 2 ∨ ci = 3))) (hn : (Int32.ofInt c).toNatClampNeg = n) : Ev d M pc L (.int (Int32.ofInt c) :: st) ((N, S, K), V, A, P) Q = Ev d M (pc + 3) L (.ref N :: st) ((N + 1, S + n, up1 K N (ci + 6, n)), V, A, up1 P N (fun _ => none)) Q := ev_next hd rfl rfl rfl (by subst hn; simp only [mNext, hj, h0, if_false])
theorem e_new {j ci : Nat} (n : Nat) (df : List Value) (hd : decode (bOf M) pc = .ok (.new j, 3)) (hj : mvNl (oOf M) j = some ci) (hci : ci < 5) (hn : nfOf ci = n) (hdf : dfOf ci = df) : Ev d M pc L st ((N, S, K), V, A, P) Q = Ev d M (pc + 3) L (.ref N :: st) ((N + 1, S + n, up1 K N (ci, n)), up1 V N (rw' df), A, P) Q := ev_next hd rfl rfl rfl (by subst hn; subst hdf; simp only [mNext, hj, hci, if_true])
theorem e_obj {j a : Nat} (hd : decode (bOf M) pc = .ok (.invokespecial j, 3)) (hj : mvObl (oOf M) j = true) (hc : mvCl (oOf M) j = none) (hr : st.length ≤ 4) : Ev d M pc L (.ref a :: st) μ Q = Ev d M (pc + 3) L st μ Q := ev_next hd rfl rfl (by simp only [mCall, hc]) (by simp only [mNext, hj, if_true, if_pos (cat_4 hr)])
-- switch
theorem e_sw {x : Int32} {df lo hi : Int} {offs : Array Int} (hd : decode (bOf M) pc = .ok (.tableswitch df lo hi offs, len)) {pc1 : Nat} (h : mNext M (.tableswitch df lo hi offs) pc L (.int x :: st) μ = some (pc1, L, st, μ)) : Ev d M pc L (.int x :: st) μ Q = Ev d M pc1 L st μ Q := ev_next hd trivial rfl rfl h
theorem iI_toInt {z : Int} (h1 : -2147483648 ≤ z) (h2 : z < 2147483648) : (iI z).toInt = z := Int32.toInt_ofInt_of_le (by omega) (by omega)
theorem iI_self (x : Int32) : iI x.toInt = x := Int32.ofInt_toInt x
theorem sw_in {x : Int32} {df hi off j : Int} {offs : Array Int} {q : Nat} (hx : x = iI j) (h0 : 0 ≤ j) (h1 : j ≤ hi) (h2 : hi < 2147483648) (ho : offs[j.toNat]? = some off) (ht : (pc : Int) + off = (q : Int)) : mNext M (.tableswitch df 0 hi offs) pc L (.int x :: st) μ = some (q, L, st, μ) := by
  have e : x.toInt = j := by rw [hx]; exact iI_toInt (by omega) (by omega)
  have h : ¬ (x.toInt < 0 ∨ hi < x.toInt) := by omega
  have h3 : 0 ≤ (q : Int) := by omega
  rw [e] at h
  simp only [mNext, e, if_neg h, Int.sub_zero, ho, tgt, ht, if_pos h3, Int.toNat_natCast]
theorem sw_out {x : Int32} {df hi : Int} {offs : Array Int} {q : Nat} (h : x.toInt < 0 ∨ hi < x.toInt) (ht : (pc : Int) + df = (q : Int)) : mNext M (.tableswitch df 0 hi offs) pc L (.int x :: st) μ = some (q, L, st, μ) := by
  have h3 : 0 ≤ (q : Int) := by omega
  simp only [mNext, if_pos h, tgt, ht, if_pos h3, Int.toNat_natCast]
theorem ne_toInt {x : Int32} {j : Int} (h : ¬ x = iI j) : ¬ x.toInt = j := fun e => h (by rw [← e]; exact (iI_self x).symm)
-- calls and returns
theorem e_iret {x : Int32} (hd : decode (bOf M) pc = .ok (.ireturn, 1)) (hr : rtOf M = some .int) : Ev d M pc L [.int x] μ Q = Q (some (.int x)) μ := ev_ret hd rfl (by simp [mRet, hr]) rfl rfl
theorem e_lret {x : Int64} (hd : decode (bOf M) pc = .ok (.lreturn, 1)) (hr : rtOf M = some .long) : Ev d M pc L [.long x] μ Q = Q (some (.long x)) μ := ev_ret hd rfl (by simp [mRet, hr]) rfl rfl
theorem e_zret {x : Int32} (hd : decode (bOf M) pc = .ok (.ireturn, 1)) (hr : rtOf M = some .boolean) (hx : isB x) : Ev d M pc L [.int x] μ Q = Q (some (.int x)) μ := ev_ret hd rfl (by simp only [mRet, hr]; exact if_pos hx) rfl rfl
theorem e_ret (hd : decode (bOf M) pc = .ok (.return_, 1)) (hr : rtOf M = none) : Ev d M pc L [] μ Q = Q none μ := ev_ret hd rfl (by simp [mRet, hr]) rfl rfl
theorem e_callS {j k : Nat} {a r : List Value} (hd : decode (bOf M) pc = .ok (.invokestatic j, 3)) (hj : mvCl (oOf M) j = some k) (hs : stOf k = true) (hk1 : k < 83) (hn : naOf k = a.length) (hr : r.length ≤ 4) : Ev d M pc L (a.reverse ++ r) μ Q = Call d k a μ (fun v μ1 => Ev d M (pc + 3) L (v.toList ++ r) μ1 Q) := ev_call hd rfl rfl (by simp [mCall, hj, hs, hn, hk1, List.take_left', List.drop_left']) (cat_4 hr) (by simp only [mNext, hj]; rw [if_neg (by intro h; cases h; omega)])
theorem e_max {j : Nat} {x y : Int32} (hd : decode (bOf M) pc = .ok (.invokestatic j, 3)) (hj : mvCl (oOf M) j = some 83) (hr : st.length ≤ 4) : Ev d M pc L (.int y :: .int x :: st) μ Q = Ev d M (pc + 3) L (.int (if x < y then y else x) :: st) μ Q := ev_next hd rfl rfl (by simp [mCall, hj]) (by simp only [mNext, hj, if_true, if_pos (cat_4 hr)])
theorem e_callV {j k c b : Nat} {a r : List Value} (hd : decode (bOf M) pc = .ok (.invokevirtual j, 3)) (hj : mvCl (oOf M) j = some k) (hs : stOf k = false) (hi : isInit k = false) (hk1 : k < 83) (hn : naOf k = a.length + 1) (hr : r.length ≤ 4) (hc : oOf k = c) (hk : kd t b = c) : Ev d M pc L (a.reverse ++ .ref b :: r) (t, V, A, P) Q = Call d k (.ref b :: a) (t, V, A, P) (fun v μ1 => Ev d M (pc + 3) L (v.toList ++ r) μ1 Q) := by
  have e : a.reverse ++ .ref b :: r = (Value.ref b :: a).reverse ++ r := by simp
  rw [e]
  refine ev_call hd rfl rfl ?_ (cat_4 hr) rfl
  have h1 : ((Value.ref b :: a).reverse ++ r).take (a.length + 1) = (Value.ref b :: a).reverse := List.take_left' (by simp)
  have h2 : ((Value.ref b :: a).reverse ++ r).drop (a.length + 1) = r := List.drop_left' (by simp)
  simp only [mCall, hj, hs, hi, hk1, hn, h1, h2, List.reverse_reverse]
  simp [rcv, hk, hc]
theorem e_callI {j k b : Nat} {a r : List Value} (hd : decode (bOf M) pc = .ok (.invokespecial j, 3)) (hj : mvCl (oOf M) j = some k) (ho : mvObl (oOf M) j = false) (hs : stOf k = false) (hi : isInit k = true) (hk1 : k < 83) (hn : naOf k = a.length + 1) (hr : r.length ≤ 4) : Ev d M pc L (a.reverse ++ .ref b :: r) μ Q = Call d k (.ref b :: a) μ (fun v μ1 => Ev d M (pc + 3) L (v.toList ++ r) μ1 Q) := by
  have e : a.reverse ++ .ref b :: r = (Value.ref b :: a).reverse ++ r := by simp
  rw [e]
  refine ev_call hd rfl rfl ?_ (cat_4 hr) (by simp [mNext, ho])
  have h1 : ((Value.ref b :: a).reverse ++ r).take (a.length + 1) = (Value.ref b :: a).reverse := List.take_left' (by simp)
  have h2 : ((Value.ref b :: a).reverse ++ r).drop (a.length + 1) = r := List.drop_left' (by simp)
  simp only [mCall, hj, hs, hi, hk1, hn, h1, h2, List.reverse_reverse]
  simp [rcI]
end EV
