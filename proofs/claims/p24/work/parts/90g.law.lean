/-! THE LAW'S ENTRY, as a start of the small machine -/
theorem law_len : (Cond.eq (.length (.static "EvenWords$Forms" "AS_A" "[I")) (.int 34)) ∈ flatC (Jvm.Cond.and given_1 narrow_1) ∧ (Cond.eq (.length (.static "EvenWords$Forms" "MEANS" "[I")) (.int 64)) ∈ flatC (Jvm.Cond.and given_1 narrow_1) ∧ (Cond.arrayOf (.static "EvenWords$Forms" "AS_A" "[I") .int) ∈ flatC (Jvm.Cond.and given_1 narrow_1) ∧ (Cond.arrayOf (.static "EvenWords$Forms" "MEANS" "[I") .int) ∈ flatC (Jvm.Cond.and given_1 narrow_1) := by decide +kernel
theorem law_asA : ∀ j, j < 34 → (Cond.eq (.elem (.static "EvenWords$Forms" "AS_A" "[I") (.int (Int32.ofNat j))) (.int (iI (asA.getD j 0)))) ∈ flatC (Jvm.Cond.and given_1 narrow_1) := by decide +kernel
theorem law_asM : ∀ j, j < 64 → (Cond.eq (.elem (.static "EvenWords$Forms" "MEANS" "[I") (.int (Int32.ofNat j))) (.int (iI (asM.getD j 0)))) ∈ flatC (Jvm.Cond.and given_1 narrow_1) := by decide +kernel
theorem lw_wrd {w : Cond} {i : Nat} (h : lw_tbl[i]? = some w) : w ∈ lw_tbl := List.mem_of_getElem? h
theorem mu0_ly (L : Nat) (xs : Nat → Int32) : lyOK (mu0 L xs).1 := by
  refine ⟨Nat.le_refl 3, fun i hi => ?_, fun i h1 h2 => ?_, fun i hi => ?_⟩
  · match i, hi with
    | 0, _ => rfl
    | 1, _ => rfl
    | 2, _ => rfl
    | n + 3, hi => omega
  · exact absurd h2 (by show ¬ i < 3; omega)
  · have : 3 ≤ i := hi
    simp only [kd, mu0]
    rw [if_neg (by omega), if_neg (by omega), if_neg (by omega)]
set_option maxHeartbeats 4000000 in
theorem law_sound {p : Program} {e : Env} {s : State} {m : MethodId} {below : List Frame} {meth : Method} {c : Code} (l : Launch) {b L : Nat} {xs : Nat → Int32} (C0 : lw_At p s m meth c b L xs) {d n : Nat} {μ' : mM} (hd : d ≤ 1000) (hrun : xR (run d) 84 n 0 [.ref 2, .null, .null, .null, .null, .null, .null, .null, .null, .null] [] (mu0 L xs) (some (.int 1)) μ') (hN : μ'.1.1 ≤ 600000) (hS : μ'.1.2.1 ≤ 7302250) : W p l e room_1 s m #[Value.ref b] below meth c s.heap [] 0 0 (lw_Z below #[Value.ref b] s) (entryFrame m ([Value.ref b] : List Value).toArray 10) := by
  obtain ⟨hx, hb, hr, hml, hown, hts, hX, hbl, hlocks, hgv⟩ := C0
  have hfl := flat_of_before _ hgv
  have htg : ∀ w ∈ gT, w.before #[Value.ref b] s = true := fun w hw => hts w (List.mem_filter.mp hw).1
  have hA : ∀ a : Nat, a < s.heap.size → ¬ (fun q : Nat => s.heap.size ≤ q) a := fun a h => Nat.not_le.mpr h
  -- the classes
  have hcl : ∀ ci : Nat, ∃ q : ClassId × (Nat → Nat), ci < 5 → u_Kn s (vC ci).1 (vC ci).2.1 (vC ci).2.2 q.1 q.2 := by
    intro ci
    by_cases h : ci < 5
    · obtain ⟨cC, iS, h1⟩ := u_known (n := (vC ci).2.2) htg (cl_ws h) (htg _ (cl_inst h).1)
      exact ⟨(cC, iS), fun _ => h1⟩
    · exact ⟨(0, fun _ => 0), fun q => absurd q h⟩
  obtain ⟨fD, hfD⟩ := Classical.axiomOfChoice hcl
  -- the array classes
  obtain ⟨cI, kI, pI, i1, i2, i3⟩ := Cond.arrayClass_spec (htg _ arr_in.1)
  obtain ⟨cZ, kZ, pZ, z1, z2, z3⟩ := Cond.arrayClass_spec (htg _ arr_in.2)
  have hao1 : (Cond.arrayOver (.object "EvenWords$Walk")).before #[Value.ref b] s = true := hts _ (lw_wrd (i := 129 + npv) (by decide +kernel))
  have hao2 : (Cond.arrayOver (.object "EvenWords$Wire")).before #[Value.ref b] s = true := hts _ (lw_wrd (i := 52 + npv) (by decide +kernel))
  obtain ⟨pK, cK, kK, k1, -, k2, k3, k4⟩ := Cond.arrayOver_spec hao1
  obtain ⟨pW, cW, kW, u1, -, u2, u3, u4⟩ := Cond.arrayOver_spec hao2
  -- the static arrays
  obtain ⟨aA, vA, tA⟩ := va_Tof (N := 34) (f := fun j => .int (iI (asA.getD j 0))) (by decide) (hfl _ law_len.2.2.1) (va_eqt (hfl _ law_len.1)) (fun j hj => va_eqt (hfl _ (law_asA j hj))) hA
  obtain ⟨aM, vM, tM⟩ := va_Tof (N := 64) (f := fun j => .int (iI (asM.getD j 0))) (by decide) (hfl _ law_len.2.2.2) (va_eqt (hfl _ law_len.2.1)) (fun j hj => va_eqt (hfl _ (law_asM j hj))) hA
  have hini : (Cond.initialized "EvenWords$Forms").before #[Value.ref b] s = true := hts _ (lw_wrd (i := 6 + npv) (by decide +kernel))
  have hZA := va_Zref (hts _ (lw_wrd (i := 221 + npv) (by decide +kernel))) hini vA hA
  have hZM := va_Zref (hts _ (lw_wrd (i := 324 + npv) (by decide +kernel))) hini vM hA
  -- the parameters
  obtain ⟨G, hG⟩ : ∃ G : sGw, G = (((fun ci => (fD ci).1), (fun ci => (fD ci).2)), (fun k => if k = 6 then cI else if k = 7 then cZ else if k = 8 then cK else cW), (fun k => if k = 0 then aA else if k = 1 then aM else if k = 2 then b else s.heap.size)) := ⟨_, rfl⟩
  have hG3 : G.2.2 3 = s.heap.size := by rw [hG]; rfl
  have hGa : aG G = fun q : Nat => s.heap.size ≤ q := by funext q; show (G.2.2 3 ≤ q) = _; rw [hG3]
  have hK : va_K G.1 vwCl (tysG G) s := by
    refine ⟨fun k q hq => ?_, fun k q hq => ?_⟩
    · have hk : k < 5 := (List.getElem?_eq_some_iff.mp hq).1
      have h1 := vw_at hk
      rw [h1] at hq
      cases hq
      rw [hG]
      exact hfD k hk
    · have e : tysG G = [(cI, .int), (cZ, .boolean), (cK, .object "EvenWords$Walk"), (cW, .object "EvenWords$Wire")] := by rw [hG]; rfl
      rw [e] at hq
      match k, hq with
      | 0, hq => cases hq; exact ⟨fun n z => ⟨fun k h => (by cases h), kI, i2, pI, i3⟩, i1⟩
      | 1, hq => cases hq; exact ⟨fun n z => ⟨fun k h => (by cases h), kZ, z2, pZ, z3⟩, z1⟩
      | 2, hq => cases hq; exact ⟨fun n z => ⟨fun k h => (by cases h), kK, k2, pK, k3⟩, kK, pK, k2, k3, k1, k4⟩
      | 3, hq => cases hq; exact ⟨fun n z => ⟨fun k h => (by cases h), kW, u2, pW, u3⟩, kW, pW, u2, u3, u1, u4⟩
      | n + 4, hq => simp at hq
  have hE : rE G (mu0 L xs) s := by
    refine ⟨fun i hi => ?_, ?_, ?_, hao1, hao2, fun q hq hn => ?_⟩
    · rw [hGa]
      match i, hi with
      | 0, _ => rw [hG]; exact tA
      | 1, _ => rw [hG]; exact tM
      | 2, _ =>
        rw [hG]
        obtain ⟨scr, h1, h2, h3, h4, h5⟩ := hX
        exact ⟨scr, h1, h2, h3, by rw [h4]; exact Nat.le_refl _, by rw [h4]; rfl, h5, hA b hbl⟩
      | n + 3, hi => omega
    · rw [hGa, hG]; exact hZA
    · rw [hGa, hG]; exact hZM
    · have h2 := chkC_all hq
      simp only [chkC, Bool.and_eq_true, decide_eq_true_eq] at h2
      rw [if_pos hn] at h2
      simp only [Bool.and_eq_true, decide_eq_true_eq] at h2
      exact va_Nw.of (w := nestW q) rfl (hts _ (lw_wrd h2.2.1))
  have F : fixd p room_1 s m #[Value.ref b] meth c G 84 := ⟨hx, hb, hml, hown, htg, fun q => absurd q (by decide), hK, by rw [hG3]; exact Nat.le_refl _, by decide, by decide⟩
  have hent := lr_entry (G := G) (k := 84) (a := [.ref 2]) (by decide)
  have had : ad G 2 = b := by rw [hG]; rfl
  rw [lg_entry_eq]
  rw [show ([Value.ref 2].map (sh G)) = [Value.ref b] from by rw [← had]; rfl] at hent
  refine xw (M := 84) (G := G) (N0 := 3) (S0 := 0) (v := some (.int 1)) (μ' := μ') (snd_all l d) F (by show d + 1 ≤ 2048; omega) (by show 64 * d + 60 ≤ 84000; omega) (by show _ ≤ 600000 + 3; omega) (by show _ ≤ 7302250 + 0; omega) ?_ n 0 _ [] (mu0 L xs) s.heap [] 0 0 _ hrun ⟨mu0_ly L xs, by rw [hG3]; rfl, fun k q h => by simp [wsG, mu0] at h, va_S.rf, hE⟩ hent rfl rfl
  intro pc' len i st' H' locs' cells' slots' ls' hd' hl hret hI hc hs
  rcases rt_cases hret with ⟨rfl, x, rfl, hv, -⟩ | ⟨rfl, rfl, hv, -⟩ | ⟨rfl, x, rfl, hv, -⟩
  · cases hl
    cases hv
    refine va_forget (fun q hq => by have := hI.2.2.2.1.2.2 q hq; rw [hGa] at this; exact this) ?_
    refine W.widen (k := 600000) (n := 7302250) (by omega) (by omega) ?_
    exact lw_ret hx hb hr hlocks hd'
  · cases hv
  · cases hv
