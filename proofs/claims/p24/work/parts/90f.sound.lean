section XF
variable {p : Program} {l : Launch} {e : Env} {R : Room} {s : State} {m : MethodId} {args : Array Value} {below : List Frame} {meth : Method} {c : Code} {Q : State → Prop} {G : sGw} {M : Nat}
/-- from here to the return -/
theorem xw {d N0 S0 : Nat} (ih : snd l d) (F : fixd p R s m args meth c G M) (hRf : d + 1 ≤ R.frames) (hRl : 64 * d + 60 ≤ R.locals) {v : Option Value} {μ' : mM} (hRc : μ'.1.1 ≤ R.cells + N0) (hRs : μ'.1.2.1 ≤ R.slots + S0)
    (K : ∀ (pc' len : Nat) (i : Instr) (st' : List Value) (H' : Heap) (locs' : List Loc) (cells' slots' : Nat) (ls' : Array Slot), decode (bOf M) pc' = .ok (i, len) → lenOK i len → mRet M i st' = some v → Iv G s μ' H' locs' → cells' + N0 = μ'.1.1 → slots' + S0 = μ'.1.2.1 → W p l e R s m args below meth c H' locs' cells' slots' Q (F0 m pc' ls' (st'.map (sh G)))) :
    ∀ (n pc : Nat) (L st : List Value) (μ : mM) (H : Heap) (locs : List Loc) (cells slots : Nat) (ls : Array Slot), xR (run d) M n pc L st μ v μ' → Iv G s μ H locs → lr G (mlOf M) L ls → cells + N0 = μ.1.1 → slots + S0 = μ.1.2.1 → W p l e R s m args below meth c H locs cells slots Q (F0 m pc ls (st.map (sh G))) := by
  intro n
  induction n with
  | zero => intro pc L st μ H locs cells slots ls h; exact absurd h (by simp [xR])
  | succ n ihn =>
    intro pc L st μ H locs cells slots ls h hI hL hc hs
    obtain ⟨i, len, hd, hl, h⟩ := h
    rcases h with ⟨h, he⟩ | ⟨pc1, L1, st1, μ1, h, h2⟩ | ⟨k, a, r, v1, μ1, h, h8, hr, h2⟩
    · subst he
      exact K pc len i st H locs cells slots ls hd hl h hI hc hs
    · have k1 := next_kept h hI.1
      have k2 := xR_kept (run_kept d) _ _ _ _ _ _ _ h2 k1.1
      have q1 := k1.2.1
      have q2 := k2.2.1
      have q3 := k1.2.2.1
      have q4 := k2.2.2.1
      exact xs F h hd hl hI hL (by omega) (by omega) (fun H1 locs1 ls1 c1 s1 hI1 hL1 e1 e2 => ihn pc1 L1 st1 μ1 H1 locs1 c1 s1 ls1 h2 hI1 hL1 (by omega) (by omega))
    · have k1 := run_kept d k a μ v1 μ1 hr hI.1
      have k2 := xR_kept (run_kept d) _ _ _ _ _ _ _ h2 k1.1
      have q1 := k1.2.1
      have q2 := k2.2.1
      have q3 := k1.2.2.1
      have q4 := k2.2.2.1
      exact xc ih F hRf hRl h hd hl h8 hr hI hL (by omega) (by omega) (fun H1 locs1 hI1 => ihn (pc + 3) L (v1.toList ++ r) μ1 H1 locs1 _ _ ls h2 hI1 hL (by omega) (by omega))
end XF
/-- the locals at a method's entry -/
theorem exL_sl (G : sGw) (a : List Value) : (lg_sl (a.map (sh G))).length = (exL a).length := by
  induction a with
  | nil => rfl
  | cons v a ih =>
    show ((if (sh G v).category = 2 then [Slot.val (sh G v), .second] else [.val (sh G v)]) ++ lg_sl (a.map (sh G))).length = (if v.category = 2 then v :: .null :: exL a else v :: exL a).length
    rw [sh_cat]
    by_cases h : v.category = 2
    · simp only [h, if_true, List.length_append, List.length_cons, List.length_nil, ih]; omega
    · simp only [h, if_false, List.length_append, List.length_cons, List.length_nil, ih]; omega
theorem exL_args (G : sGw) : ∀ (a : List Value) (i j : Nat) (v : Value), (exL a)[j]? = some v → v ≠ .null → (i + j, sh G v) ∈ lv_args i (a.map (sh G)) := by
  intro a
  induction a with
  | nil => intro i j v h; simp [exL] at h
  | cons w a ih =>
    intro i j v h hv
    simp only [exL] at h
    simp only [List.map_cons, lv_args, sh_cat]
    by_cases hw : w.category = 2
    · simp only [hw, if_true] at h ⊢
      match j, h with
      | 0, h => simp at h; subst h; simp
      | 1, h => simp at h; exact absurd h.symm hv
      | j + 2, h =>
        have := ih (i + 2) j v (by simpa using h) hv
        rw [show i + (j + 2) = i + 2 + j by omega]
        exact List.mem_cons_of_mem _ this
    · simp only [hw, if_false] at h ⊢
      match j, h with
      | 0, h => simp at h; subst h; simp
      | j + 1, h =>
        have := ih (i + 1) j v (by simpa using h) hv
        rw [show i + (j + 1) = i + 1 + j by omega]
        exact List.mem_cons_of_mem _ this
theorem lr_entry {G : sGw} {k : Nat} {a : List Value} (hn : (exL a).length ≤ mlOf k) : lr G (mlOf k) (enL k a) ((lg_sl (a.map (sh G)) ++ List.replicate (mlOf k - (lg_sl (a.map (sh G))).length) Slot.unset).toArray) := by
  have hlen := exL_sl G a
  obtain ⟨h1, h2, h3⟩ := lv_entry (a.map (sh G)) (n := mlOf k) (by rw [hlen]; exact hn)
  refine ⟨by simp [enL]; omega, h1, h2, fun i v hi hv => ?_⟩
  have hi' : (exL a)[i]? = some v := by
    unfold enL at hi
    by_cases q : i < (exL a).length
    · rwa [List.getElem?_append_left q] at hi
    · rw [List.getElem?_append_right (by omega), List.getElem?_replicate] at hi
      split at hi
      · cases hi; exact absurd rfl hv
      · cases hi
  have := exL_args G a 0 i v hi' hv
  rw [Nat.zero_add] at this
  exact h3 _ this
theorem plain_in {k : Nat} (h : k < 83) : plainName (yOf k).cls = true := (mw_all h).2.2.2.2.1
theorem rt_cases {M : Nat} {i : Instr} {st : List Value} {v : Option Value} (h : mRet M i st = some v) : (i = .ireturn ∧ ∃ x, st = [.int x] ∧ v = some (.int x) ∧ (rtOf M = some .int ∨ (rtOf M = some .boolean ∧ (x = 0 ∨ x = 1)))) ∨ (i = .return_ ∧ st = [] ∧ v = none ∧ rtOf M = none) ∨ (i = .lreturn ∧ ∃ x, st = [.long x] ∧ v = some (.long x) ∧ rtOf M = some .long) := by
  unfold mRet at h
  split at h
  · split at h
    · rename_i x hr
      cases h
      exact Or.inr (Or.inr ⟨rfl, _, rfl, rfl, hr⟩)
    · cases h
  · split at h
    · rename_i x hr
      cases h
      exact Or.inl ⟨rfl, _, rfl, rfl, Or.inl hr⟩
    · split at h
      · rename_i hr h01
        cases h
        exact Or.inl ⟨rfl, _, rfl, rfl, Or.inr ⟨hr, h01⟩⟩
      · cases h
    · cases h
  · split at h
    · rename_i hr
      cases h
      exact Or.inr (Or.inl ⟨rfl, rfl, rfl, hr⟩)
    · cases h
  · cases h
set_option maxHeartbeats 4000000 in
/-- every run of the small machine is the machine's -/
theorem snd_all (l : Launch) : ∀ d, snd l d := by
  intro d
  induction d with
  | zero => intro G k a μ v μ' hk h; exact absurd h (by simp [run])
  | succ d ih =>
    intro G k a μ v μ' hk h hly0
    have kp := run_kept (d + 1) k a μ v μ' h hly0
    obtain ⟨hlen, hcat, n, hrun⟩ := h
    have hcat' : (exL a).length ≤ mlOf k := Nat.le_of_ble_eq_true hcat
    obtain ⟨w1, w2, w3, w4, w5, w6, w7⟩ := mw_all hk
    refine Met.ofW (cc := bOf k) (maxL := mlOf k) (ret := rtOf k) w5 rfl ?_
    intro p e s m args below meth c s₁ B hml hv
    obtain ⟨rfl, hly, hsz, hP, hK, hE⟩ := hv
    have hx := B.exec
    have hb := B.bytes
    have hr := B.returns
    have hlocks := B.notSynchronized
    have hts0 := atoms_spec (ws := wsK k) B.pre
    have hts : ∀ w ∈ gT, w.before ((a.map (sh G)).toArray) s = true := fun w hw => hts0 w (List.mem_cons_of_mem _ hw)
    have hown : s.vm.findClass (ownN (oOf k)) = some m.cls := by rw [← w7.1]; exact findClass_of_methodNamed B.named
    have hinit : isInit k = true → meth.name = "<init>" := fun q => by rw [(name_of_methodNamed B.named B.method).1]; exact w7.2.1 q
    have hsz0 : G.2.2 3 ≤ s.heap.size := by rw [hsz]; omega
    have F : fixd p (rmD (d + 1) (μ'.1.1 - μ.1.1) (μ'.1.2.1 - μ.1.2.1)) s m ((a.map (sh G)).toArray) meth c G k := ⟨hx, hb, hml, hown, hts, hinit, hK, hsz0, Nat.le_add_left 1 d, by show 60 ≤ 64 * (d + 1); omega⟩
    rw [lg_entry_eq]
    have q1 := kp.2.1
    have q2 := kp.2.2.1
    refine xw (M := k) (G := G) (N0 := μ.1.1) (S0 := μ.1.2.1) (v := v) (μ' := μ') ih F (Nat.le_refl _) (by show 64 * d + 60 ≤ 64 * (d + 1); omega) (by show _ ≤ _ - _ + _; omega) (by show _ ≤ _ - _ + _; omega) ?_ n 0 (enL k a) [] μ s.heap [] 0 0 _ hrun ⟨hly, hsz, hP, va_S.rf, hE⟩ (lr_entry hcat') (by omega) (by omega)
    intro pc' len i st' H' locs' cells' slots' ls' hd hl hret hI hc hs
    obtain ⟨i1, i2, i3, i4, i5⟩ := hI
    have e1 : cells' = μ'.1.1 - μ.1.1 := by omega
    have e2 : slots' = μ'.1.2.1 - μ.1.2.1 := by omega
    subst e1
    subst e2
    have post : ∀ t : State, t.heap = H' → s.WarmedH t.vm → Qr G v μ' ((a.map (sh G)).toArray) s (.returned (v.map (sh G))) t := fun t ht hW => ⟨⟨rfl, i1, by rw [ht]; exact i2, by rw [ht]; exact i3, va_K.moved hW.alike hK, i5.move i4 ht hW⟩, i4.F ht⟩
    rcases rt_cases hret with ⟨rfl, x, rfl, rfl, hrt⟩ | ⟨rfl, rfl, rfl, hrt⟩ | ⟨rfl, x, rfl, rfl, hrt⟩
    · cases hl
      rcases hrt with hrt | ⟨hrt, h01⟩
      · exact W.iret hx hb (by rw [hr, hrt]) post i4.2.2 hd hlocks
      · exact W.zret (ty := .boolean) hx hb (by rw [hr, hrt]) (by rcases h01 with rfl | rfl <;> rfl) post i4.2.2 hd hlocks
    · cases hl
      exact W.vret hx hb (by rw [hr, hrt]) post i4.2.2 hd hlocks
    · cases hl
      exact W.lret hx hb (by rw [hr, hrt]) post i4.2.2 hd hlocks
