/-! A RUN OF THE SMALL MACHINE IS A RUN OF THE MACHINE -/
def rmD (d mc ms : Nat) : Room := { frames := d, cells := mc, slots := ms, locals := 64 * d }
def Qr (G : sGw) (v : Option Value) (μ' : mM) : Array Value → State → Outcome → State → Prop := fun _ st o t => (o = .returned (v.map (sh G)) ∧ wd G μ' t) ∧ va_F (aG G) st t
/-- every method's run, calls no deeper than d, is the machine's -/
def snd (l : Launch) (d : Nat) : Prop := ∀ (G : sGw) (k : Nat) (a : List Value) (μ : mM) (v : Option Value) (μ' : mM), k < 83 → run d k a μ v μ' → lyOK μ.1 →
  Met l (yOf k) (wsK k) (rmD d (μ'.1.1 - μ.1.1) (μ'.1.2.1 - μ.1.2.1)) (va_Pc (a.map (sh G)) (wd G μ)) (Qr G v μ') (μ'.1.1 - μ.1.1) (μ'.1.2.1 - μ.1.2.1) (aG G)
theorem blind (G : sGw) (av : List Value) (μ : mM) : FrameBlind (va_Pc av (wd G μ)) := by
  intro a U g mk h
  obtain ⟨h1, h2, h3, h4, h5, h6⟩ := h
  refine ⟨h1, h2, h3, h4, va_K.moved (u := U) (U := U.calling g mk a) (Vm.Alike.refl U.vm) h5, ?_⟩
  obtain ⟨e1, e2, e3, e4, e5, e6⟩ := h6
  refine ⟨fun i hi => (e1 i hi).moved (u := U) (U := U.calling g mk a) (Vm.Alike.refl U.vm), e2.moved (u := U) (U := U.calling g mk a) (Vm.Alike.refl U.vm), e3.moved (u := U) (U := U.calling g mk a) (Vm.Alike.refl U.vm), e4.moved (u := U) (U := U.calling g mk a) (Vm.Alike.refl U.vm), e5.moved (u := U) (U := U.calling g mk a) (Vm.Alike.refl U.vm), fun q hq hn => ?_⟩
  exact va_Nw.same (w := nestW q) rfl (u := U) (U := U.calling g mk a) rfl (e6 q hq hn)
theorem own6_1 : (List.range 83).all (fun k => stOf k || decide (oOf k < 5)) = true := by decide +kernel
theorem own6 {k : Nat} (h : k < 83) (hs : stOf k = false) : oOf k < 5 := by
  have := List.all_eq_true.mp own6_1 k (List.mem_range.mpr h)
  rw [hs] at this
  simpa using this
theorem nf_pos {ci : Nat} (h : ci < 5) : 0 < nfOf ci := lt6 (P := fun ci => 0 < nfOf ci) (by decide) (by decide) (by decide) (by decide) (by decide) h
section XW
variable {p : Program} {l : Launch} {e : Env} {R : Room} {s : State} {m : MethodId} {args : Array Value} {below : List Frame} {meth : Method} {c : Code} {Q : State → Prop} {G : sGw} {M : Nat}
/-- behind a call -/
theorem back_call {H : Heap} {locs : List Loc} {cells slots mc ms pc : Nat} {ls : Array Slot} {st0 rest : List Value} {a : Array Value} {v : Option Value} {μ' : mM} (hr : va_Run p l e R s m args below meth c H locs cells slots mc ms (F0 m pc ls st0) rest (Qr G v μ' a) (aG G)) (hS : va_S (aG G) s.heap H locs)
    (kk : ∀ (t : State) (H1 : Heap) (locs1 : List Loc), t.heap = H1 → wd G μ' t → va_S (aG G) s.heap H1 locs1 → W p l e R s m args below meth c H1 locs1 (cells + mc) (slots + ms) Q (F0 m (pc + 3) ls ((v.map (sh G)).toList ++ rest))) : W p l e R s m args below meth c H locs cells slots Q (F0 m pc ls st0) := by
  intro T hT X
  obtain ⟨v', st₀, t, T', L, h0, X', hL, e1, e2, ⟨⟨hv, hw⟩, hz, hk⟩, st⟩ := hr T hT X
  cases hv
  rw [h0] at hz hk
  obtain ⟨t2, a1, b1⟩ := kk t T'.heap (locs ++ L) e1.symm hw
    ⟨Nat.le_trans hS.1 (by rw [e1]; exact hz), fun q h1 h2 => by rw [e1, hk q (Nat.lt_of_lt_of_le h1 hS.1) h2]; exact hS.2.1 q h1 h2, fun q hq => by
      rcases List.mem_append.mp hq with h | h
      · exact hS.2.2 q h
      · exact hL q h⟩ T' rfl X'
  exact ⟨t2, st t2 a1, b1⟩
theorem xc {d k cells slots pc len : Nat} {i : Instr} {L st a r : List Value} {μ μ1 : mM} {v1 : Option Value} {H : Heap} {locs : List Loc} {ls : Array Slot} (ih : snd l d) (F : fixd p R s m args meth c G M) (hRf : d + 1 ≤ R.frames) (hRl : 64 * d + 60 ≤ R.locals) (hn : mCall M i st μ.1 = some (k, a, r)) (hd : decode (bOf M) pc = .ok (i, len)) (hl : lenOK i len) (h8 : (r.map fun v => v.category).sum ≤ 8) (hr : run d k a μ v1 μ1) (hI : Iv G s μ H locs) (hL : lr G (mlOf M) L ls) (hc : cells + (μ1.1.1 - μ.1.1) ≤ R.cells) (hs : slots + (μ1.1.2.1 - μ.1.2.1) ≤ R.slots)
    (kk : ∀ (H1 : Heap) (locs1 : List Loc), Iv G s μ1 H1 locs1 → W p l e R s m args below meth c H1 locs1 (cells + (μ1.1.1 - μ.1.1)) (slots + (μ1.1.2.1 - μ.1.2.1)) Q (F0 m (pc + 3) ls ((v1.toList ++ r).map (sh G)))) :
    W p l e R s m args below meth c H locs cells slots Q (F0 m pc ls (st.map (sh G))) := by
  obtain ⟨hx, hb, hml, hown, hts, hinit, hK, hA, -, -⟩ := F
  obtain ⟨hly, hsz, hP, hS, hE⟩ := hI
  have kp := run_kept d k a μ v1 μ1 hr hly
  have CF : CallFix p m c (bOf M) (mlOf M) s args gT (ownN (oOf M)) := ⟨hx, hb, hml, hown, hts⟩
  have fin : ∀ (t : State) (H1 : Heap) (locs1 : List Loc), t.heap = H1 → wd G μ1 t → va_S (aG G) s.heap H1 locs1 → W p l e R s m args below meth c H1 locs1 (cells + (μ1.1.1 - μ.1.1)) (slots + (μ1.1.2.1 - μ.1.2.1)) Q (F0 m (pc + 3) ls ((v1.map (sh G)).toList ++ r.map (sh G))) := by
    intro t H1 locs1 ht hw hS1
    have := kk H1 locs1 ⟨hw.1, by rw [← ht]; exact hw.2.1, by rw [← ht]; exact hw.2.2.1, hS1, hE.of kp.2.2.2⟩
    rw [List.map_append] at this
    cases v1 <;> exact this
  have pre : ∀ U : State, U.heap = H → s.WarmedH U.vm → va_Pc (a.map (sh G)) (wd G μ) (a.map (sh G)).toArray U := fun U hU hW => ⟨rfl, hly, by rw [hU]; exact hsz, by rw [hU]; exact hP, va_K.moved hW.alike hK, hE.move hS hU hW⟩
  have hsplit : naOf k ≤ st.length → st.map (sh G) = ((st.take (naOf k)).reverse.map (sh G)).reverse ++ (st.drop (naOf k)).map (sh G) := fun _ => by
    rw [← List.map_reverse, List.reverse_reverse, ← List.map_append, List.take_append_drop]
  have hmon : 2 * (F0 m pc ls (st.map (sh G))).monitorRoom + ((r.map (sh G)).map fun v => v.category).sum ≤ 8 := by
    show 2 * 0 + _ ≤ 8
    rw [sh_sum]; omega
  cases i
  case invokestatic j =>
    cases hl; simp only [mCall] at hn
    split at hn
    · rename_i k' hj
      split at hn
      · rename_i h0
        cases hn
        obtain ⟨w1, w2, -, w4, w5, w6, w7⟩ := mw_all h0.2.2
        rw [if_pos h0.2.1] at w2 w6
        have hlk : (Cond.methodLink (ownN (oOf M)) j (yOf k)) ∈ gT := by
          rcases cl_in hj with q | q
          · exact q
          · exfalso
            have hs0 : stOf k = true := h0.2.1
            have hi0 : isInit k = true := q.1
            simp only [isInit, Bool.or_eq_true, beq_iff_eq] at hi0
            rcases hi0 with (((rfl | rfl) | rfl) | rfl) | rfl <;> revert hs0 <;> decide
        have hG : GoodIn gT (va_wsS (ownN (oOf M)) j (yOf k) (wsK k)) := gT_goodIn (fun w hw => by
          rcases List.mem_append.mp hw with h | h
          · simp only [List.mem_cons, List.not_mem_nil, or_false] at h
            rcases h with rfl | rfl | rfl
            · exact hlk
            · exact w2
            · exact w4
          · rcases List.mem_cons.mp h with rfl | h
            · exact w1
            · exact h)
        refine back_call (va_runS (As := (st.take (naOf k)).reverse.map (sh G)) (rest := (st.drop (naOf k)).map (sh G)) CF (ih G k _ μ v1 μ1 h0.2.2 hr hly) (va_cwS (naOf k) hts hG rfl rfl rfl w6 ⟨hRf, ?_⟩) ⟨blind G _ μ, pre⟩ rfl ?_ hL.2.1 (hsplit h0.1) hmon hd ⟨hc, hs⟩) hS fin
        · have := w7.2.2.1
          show 8 + (mlOf k + 11) + 64 * d ≤ R.locals
          omega
        · simp
          omega
      · cases hn
    · cases hn
  case invokevirtual j =>
    cases hl; simp only [mCall] at hn
    split at hn
    · rename_i k' hj
      split at hn
      · rename_i h0
        cases hn
        obtain ⟨q1, q2, q3, q4, q5⟩ := h0
        obtain ⟨w1, w2, w3, w4, w5, w6, w7⟩ := mw_all q4
        rw [q2] at w2 w6
        have hlk : (Cond.methodLink (ownN (oOf M)) j (yOf k)) ∈ gT := by
          rcases cl_in hj with q | q
          · exact q
          · exact absurd q.1 (by rw [q3]; decide)
        generalize hav : (st.take (naOf k)).reverse = av at *
        unfold rcv at q5
        split at q5
        · rename_i b as
          simp only [decide_eq_true_eq] at q5
          have hg1 : oOf k < 5 := own6 q4 q2
          have hro := hly.ro (a := b) (by rw [q5]; omega)
          have hw := wsG_get (G := G) hro.1 hro.2
          rw [cvE_obj q5 hg1 hly] at hw
          have hnm : (yOf k).cls = (vC (oOf k)).1 := by rw [w7.1, ← (ft_ok hg1 (nf_pos hg1)).2.2.2]
          have hG : GoodIn gT (wsV (ownN (oOf M)) j (yOf k).cls (yOf k) (wsK k)) := gT_goodIn (fun w hw => by
            rcases List.mem_append.mp hw with h | h
            · simp only [List.mem_cons, List.not_mem_nil, or_false] at h
              rcases h with rfl | rfl | rfl | rfl
              · exact hlk
              · exact w2
              · exact w3 q3 q2
              · exact w4
            · rcases List.mem_cons.mp h with rfl | h
              · exact w1
              · exact h)
          have hlen : as.length = naOf k - 1 := by
            have : (Value.ref b :: as).length = naOf k := by rw [← hav]; simp; omega
            simp at this
            omega
          refine back_call (va_runV (As := as.map (sh G)) (rest := (st.drop (naOf k)).map (sh G)) CF (ih G k _ μ v1 μ1 q4 hr hly) (cwV (naOf k - 1) hts hG rfl rfl rfl ⟨rfl, w6⟩ ⟨hRf, ?_⟩) ⟨blind G _ μ, by rw [hnm]; exact va_recv hK hP (vw_at hg1) hw, pre⟩ rfl (by simp; exact hlen) hL.2.1 ?_ hmon hd ⟨hc, hs⟩) hS fin
          · have := w7.2.2.1
            show 8 + (mlOf k + 11) + 64 * d ≤ R.locals
            omega
          · show st.map (sh G) = _
            rw [hsplit q1]
            simp [sh_ref]
        · cases q5
      · cases hn
    · cases hn
  case invokespecial j =>
    cases hl; simp only [mCall] at hn
    split at hn
    · rename_i k' hj
      split at hn
      · rename_i h0
        cases hn
        obtain ⟨q1, q2, q3, q4, q5⟩ := h0
        obtain ⟨w1, w2, w3, w4, w5, w6, w7⟩ := mw_all q4
        rw [q2] at w2 w6
        have hrt : rtOf k = none := w7.2.2.2.2.2 q3
        have hws : wsK k = .code (yOf k) (bOf k) (mlOf k) none :: gT := by rw [wsK, hrt]
        have hGk : GoodIn gT (wsK k) := gT_goodIn (fun w hw => by
          rcases List.mem_cons.mp hw with rfl | h
          · exact w1
          · exact h)
        generalize hav : (st.take (naOf k)).reverse = av at *
        unfold rcI at q5
        split at q5
        · rename_i b as
          have hlen : as.length = naOf k - 1 := by
            have : (Value.ref b :: as).length = naOf k := by rw [← hav]; simp; omega
            simp at this
            omega
          have hstk : st.map (sh G) = (as.map (sh G)).reverse ++ .ref (ad G b) :: (st.drop (naOf k)).map (sh G) := by
            rw [hsplit q1]
            simp [sh_ref]
          have hR2 : 8 + (mlOf k + 11) + (rmD d (μ1.1.1 - μ.1.1) (μ1.1.2.1 - μ.1.2.1)).locals ≤ R.locals := by
            have := w7.2.2.1
            show 8 + (mlOf k + 11) + 64 * d ≤ R.locals
            omega
          rcases cl_in hj with q | ⟨-, q, hq, hqn, hqe⟩
          · exact back_call (va_runI (As := as.map (sh G)) (rest := (st.drop (naOf k)).map (sh G)) CF (ih G k _ μ v1 μ1 q4 hr hly) (cwI (naOf k - 1) hts hGk hws rfl rfl (hts _ w4) (hts _ q) (hts _ w2) (w7.2.1 q3) w6 ⟨hRf, hR2⟩) ⟨blind G _ μ, pre⟩ rfl (by simp; exact hlen) hL.2.1 hstk hmon hd ⟨hc, hs⟩) hS fin
          · have hnw : va_Nw (.methodLinkNest (ownN (oOf M)) j (yOf k) "EvenWords") s := by rw [← hqe]; exact hE.2.2.2.2.2 q hq hqn
            exact back_call (va_runIN (As := as.map (sh G)) (rest := (st.drop (naOf k)).map (sh G)) CF (ih G k _ μ v1 μ1 q4 hr hly) ⟨va_cnB (naOf k - 1) hts hGk hws rfl rfl hnw (hts _ w4) w6 ⟨hRf, hR2⟩, w7.2.1 q3, hts _ w2⟩ ⟨blind G _ μ, pre⟩ rfl (by simp; exact hlen) hL.2.1 hstk hmon hd ⟨hc, hs⟩) hS fin
        · cases q5
      · cases hn
    · cases hn
  all_goals (exfalso; simp [mCall] at hn)
end XW
