/-! ONE STEP OF THE SMALL MACHINE IS A STEP OF THE MACHINE -/
def Iv (G : sGw) (s : State) (μ : mM) (H : Heap) (locs : List Loc) : Prop := lyOK μ.1 ∧ H.size = G.2.2 3 + (μ.1.1 - 3) ∧ va_P G.1 vwCl (wsG G μ) H ∧ va_S (aG G) s.heap H locs ∧ rE G μ s
theorem ad_lo (G : sGw) {i : Nat} (h : i < 3) : ad G i = G.2.2 i := if_pos h
theorem ad_hi (G : sGw) {i : Nat} (h : 3 ≤ i) : ad G i = G.2.2 3 + (i - 3) := if_neg (by omega)
section XS
variable {p : Program} {l : Launch} {e : Env} {R : Room} {s : State} {m : MethodId} {args : Array Value} {below : List Frame} {meth : Method} {c : Code} {Q : State → Prop} {G : sGw} {M : Nat}
/-- what is fixed while a method runs -/
def fixd (p : Program) (R : Room) (s : State) (m : MethodId) (args : Array Value) (meth : Method) (c : Code) (G : sGw) (M : Nat) : Prop :=
  p.tables.exec = Jvm.exec ∧ c.code = bOf M ∧ c.maxLocals = mlOf M ∧ s.vm.findClass (ownN (oOf M)) = some m.cls ∧ (∀ w ∈ gT, w.before args s = true) ∧ (isInit M = true → meth.name = "<init>") ∧ va_K G.1 vwCl (tysG G) s ∧ G.2.2 3 ≤ s.heap.size ∧ 1 ≤ R.frames ∧ 60 ≤ R.locals
theorem cvE_obj {G : sGw} {μ : mM} {a ci : Nat} (hk : kd μ.1 a = ci) (h : ci < 5) (hl : lyOK μ.1) : cvE G μ a = .inr (ci, (List.range (nfOf ci)).map (fun k => sh G (μ.2.1 a k))) := by
  have h1 := hl.ro (a := a) (by omega)
  have h2 := (hl.2.2.1 a h1.1 h1.2).2 (by omega)
  subst hk
  simp only [cvE, if_pos h, h2]
theorem cvE_arr {G : sGw} {μ : mM} {a ci : Nat} (hk : kd μ.1 a = ci) (h : ci = 6 ∨ ci = 7) : cvE G μ a = .inl (G.2.1 ci, ln μ.1 a, .inl (μ.2.2.1 a)) := by
  simp only [cvE, hk]
  rw [if_neg (by omega), if_pos (by omega)]
theorem cvE_arq {G : sGw} {μ : mM} {a ci : Nat} (hk : kd μ.1 a = ci) (h : ci = 8 ∨ ci = 9) : cvE G μ a = .inl (G.2.1 ci, ln μ.1 a, .inr (.inr (.inr (.inr (fun j => (μ.2.2.2 a j).map (ad G)))))) := by
  simp only [cvE, hk]
  rw [if_neg (by omega), if_neg (by omega)]
theorem vw_at {ci : Nat} (h : ci < 5) : vwCl[ci]? = some ((vC ci).1, (vC ci).2.1, (vC ci).2.2) := (cl_inst h).2.2.2
theorem df_map (G : sGw) {ci : Nat} (h : ci < 5) : (List.range (nfOf ci)).map (fun k => sh G (rw' (dfOf ci) k)) = dfOf ci := lt6 (P := fun ci => (List.range (nfOf ci)).map (fun k => sh G (rw' (dfOf ci) k)) = dfOf ci) rfl rfl rfl rfl rfl h
theorem arr_in : (Cond.arrayClass .int) ∈ gT ∧ (Cond.arrayClass .boolean) ∈ gT := ⟨chk_in (i := 51 + npv) (by decide +kernel), chk_in (i := 85 + npv) (by decide +kernel)⟩
theorem rf_map (G : sGw) (o : Option Nat) : va_rf (o.map (ad G)) = sh G (va_rf o) := by cases o <;> rfl
theorem xs {i : Instr} {len pc pc1 cells slots : Nat} {L st L1 st1 : List Value} {μ μ1 : mM} {H : Heap} {locs : List Loc} {ls : Array Slot} (F : fixd p R s m args meth c G M) (hn : mNext M i pc L st μ = some (pc1, L1, st1, μ1)) (hd : decode (bOf M) pc = .ok (i, len)) (hl : lenOK i len) (hI : Iv G s μ H locs) (hL : lr G (mlOf M) L ls) (hc : cells + (μ1.1.1 - μ.1.1) ≤ R.cells) (hs : slots + (μ1.1.2.1 - μ.1.2.1) ≤ R.slots)
    (kk : ∀ (H1 : Heap) (locs1 : List Loc) (ls1 : Array Slot) (c1 s1 : Nat), Iv G s μ1 H1 locs1 → lr G (mlOf M) L1 ls1 → c1 = cells + (μ1.1.1 - μ.1.1) → s1 = slots + (μ1.1.2.1 - μ.1.2.1) → W p l e R s m args below meth c H1 locs1 c1 s1 Q (F0 m pc1 ls1 (st1.map (sh G)))) :
    W p l e R s m args below meth c H locs cells slots Q (F0 m pc ls (st.map (sh G))) := by
  obtain ⟨hx, hb, hml, hown, hts, hinit, hK, hA, hRf, hRl⟩ := F
  have hIv := hI
  obtain ⟨hly, hsz, hP, hS, hE⟩ := hI
  have hAq : ∀ q, s.heap.size ≤ q → aG G q := fun q h => Nat.le_trans hA h
  have hD := wsG_D G μ
  cases i
  case iconst z =>
    cases hl; simp only [mNext] at hn; cases hn
    exact lv_iconst hx hb hd rfl (kk H locs ls cells slots hIv hL (by omega) (by omega))
  case bipush z =>
    cases hl; simp only [mNext] at hn; cases hn
    exact lv_bipush hx hb hd rfl (kk H locs ls cells slots hIv hL (by omega) (by omega))
  case sipush z =>
    cases hl; simp only [mNext] at hn; cases hn
    exact lv_sipush hx hb hd rfl (kk H locs ls cells slots hIv hL (by omega) (by omega))
  case lconst z =>
    cases hl; simp only [mNext] at hn; cases hn
    exact lv_lconst hx hb hd rfl (kk H locs ls cells slots hIv hL (by omega) (by omega))
  case ldc j =>
    cases hl; simp only [mNext] at hn
    split at hn
    · rename_i v hv
      cases hn
      exact lv_ldc hx hb hown (hts _ (ki_in hv)) hd (kk H locs ls cells slots hIv hL (by omega) (by omega))
    · cases hn
  case ldc_w j =>
    cases hl; simp only [mNext] at hn
    split at hn
    · rename_i v hv
      cases hn
      exact lv_ldcw hx hb hown (hts _ (ki_in hv)) hd (kk H locs ls cells slots hIv hL (by omega) (by omega))
    · cases hn
  case ldc2_w j =>
    cases hl; simp only [mNext] at hn
    split at hn
    · rename_i v hv
      cases hn
      exact lv_ldc2 hx hb hown (hts _ (kli_in hv)) hd (kk H locs ls cells slots hIv hL (by omega) (by omega))
    · cases hn
  case iload_n k =>
    cases hl; simp only [mNext] at hn
    split at hn
    · rename_i x hv
      cases hn
      exact lv_iload_n hx hb hd rfl (hL.at hv (by simp)) (kk H locs ls cells slots hIv hL (by omega) (by omega))
    · cases hn
  case iload k =>
    cases hl; simp only [mNext] at hn
    split at hn
    · rename_i x hv
      cases hn
      exact lv_iload hx hb hd (hL.at hv (by simp)) (kk H locs ls cells slots hIv hL (by omega) (by omega))
    · cases hn
  case aload_n k =>
    cases hl; simp only [mNext] at hn
    split at hn
    · rename_i x hv
      cases hn
      exact lv_aload_n hx hb hd rfl (hL.at hv (by simp)) (kk H locs ls cells slots hIv hL (by omega) (by omega))
    · cases hn
  case aload k =>
    cases hl; simp only [mNext] at hn
    split at hn
    · rename_i x hv
      cases hn
      exact lv_aload hx hb hd (hL.at hv (by simp)) (kk H locs ls cells slots hIv hL (by omega) (by omega))
    · cases hn
  case lload_n k =>
    cases hl; simp only [mNext] at hn
    split at hn
    · rename_i x hv
      cases hn
      exact lv_lload_n hx hb hd rfl (hL.at hv (by simp)) (kk H locs ls cells slots hIv hL (by omega) (by omega))
    · cases hn
  case lload k =>
    cases hl; simp only [mNext] at hn
    split at hn
    · rename_i x hv
      cases hn
      exact lv_lload hx hb hd (hL.at hv (by simp)) (kk H locs ls cells slots hIv hL (by omega) (by omega))
    · cases hn
  case istore_n k =>
    cases hl; simp only [mNext] at hn
    split at hn
    · split at hn
      · rename_i x r ho
        cases hn
        exact lv_istore_n hx hb hd rfl hL.has (by rw [← hL.1]; exact stOK_lt ho) rfl (fun ls' h' => kk H locs ls' cells slots hIv (hL.set ho h') (by omega) (by omega))
      · cases hn
    · cases hn
  case istore k =>
    cases hl; simp only [mNext] at hn
    split at hn
    · split at hn
      · rename_i x r ho
        cases hn
        exact lv_istore hx hb hd hL.has (by rw [← hL.1]; exact stOK_lt ho) rfl (fun ls' h' => kk H locs ls' cells slots hIv (hL.set ho h') (by omega) (by omega))
      · cases hn
    · cases hn
  case astore_n k =>
    cases hl; simp only [mNext] at hn
    split at hn
    · split at hn
      · rename_i x r ho
        cases hn
        exact lv_astore_n hx hb hd rfl hL.has (by rw [← hL.1]; exact stOK_lt ho) rfl (fun ls' h' => kk H locs ls' cells slots hIv (hL.set ho h') (by omega) (by omega))
      · cases hn
    · cases hn
  case astore k =>
    cases hl; simp only [mNext] at hn
    split at hn
    · split at hn
      · rename_i x r ho
        cases hn
        exact lv_astore hx hb hd hL.has (by rw [← hL.1]; exact stOK_lt ho) rfl (fun ls' h' => kk H locs ls' cells slots hIv (hL.set ho h') (by omega) (by omega))
      · cases hn
    · cases hn
  case lstore_n k =>
    cases hl; simp only [mNext] at hn
    split at hn
    · split at hn
      · rename_i x r ho
        cases hn
        exact lv_lstore_n hx hb hd rfl hL.has (by rw [← hL.1]; exact ho.2.1) rfl (fun ls' h' => kk H locs ls' cells slots hIv (hL.set2 ho.1 h') (by omega) (by omega))
      · cases hn
    · cases hn
  case lstore k =>
    cases hl; simp only [mNext] at hn
    split at hn
    · split at hn
      · rename_i x r ho
        cases hn
        exact lv_lstore hx hb hd hL.has (by rw [← hL.1]; exact ho.2.1) rfl (fun ls' h' => kk H locs ls' cells slots hIv (hL.set2 ho.1 h') (by omega) (by omega))
      · cases hn
    · cases hn
  case iinc k z =>
    cases hl; simp only [mNext] at hn
    split at hn
    · split at hn
      · rename_i x hv ho
        cases hn
        obtain ⟨n, hn1⟩ := List.getElem?_of_mem (prs_mem (G := G) (q := (k, .int x)).mpr ⟨_, hv, by simp, rfl⟩)
        exact lv_iinc hx hb hd hL.has hn1 rfl (by rw [← hL.1]; exact stOK_lt ho) rfl (fun ls' h' => kk H locs ls' cells slots hIv (hL.set (v := .int _) ho h') (by omega) (by omega))
      · cases hn
    · cases hn
  case iadd =>
    cases hl; simp only [mNext] at hn
    split at hn
    · cases hn; exact lv_iadd hx hb hd (kk H locs ls cells slots hIv hL (by omega) (by omega))
    · cases hn
  case isub =>
    cases hl; simp only [mNext] at hn
    split at hn
    · cases hn; exact lv_isub hx hb hd (kk H locs ls cells slots hIv hL (by omega) (by omega))
    · cases hn
  case imul =>
    cases hl; simp only [mNext] at hn
    split at hn
    · cases hn; exact lv_imul hx hb hd (kk H locs ls cells slots hIv hL (by omega) (by omega))
    · cases hn
  case idiv =>
    cases hl; simp only [mNext] at hn
    split at hn
    · split at hn
      · cases hn
      · rename_i h0; cases hn; exact lv_idiv hx hb hd h0 (kk H locs ls cells slots hIv hL (by omega) (by omega))
    · cases hn
  case irem =>
    cases hl; simp only [mNext] at hn
    split at hn
    · split at hn
      · cases hn
      · rename_i h0; cases hn; exact lv_irem hx hb hd h0 (kk H locs ls cells slots hIv hL (by omega) (by omega))
    · cases hn
  case ineg =>
    cases hl; simp only [mNext] at hn
    split at hn
    · cases hn; exact lv_ineg hx hb hd (kk H locs ls cells slots hIv hL (by omega) (by omega))
    · cases hn
  case iand =>
    cases hl; simp only [mNext] at hn
    split at hn
    · cases hn; exact lv_iand hx hb hd (kk H locs ls cells slots hIv hL (by omega) (by omega))
    · cases hn
  case ior =>
    cases hl; simp only [mNext] at hn
    split at hn
    · cases hn; exact lv_ior hx hb hd (kk H locs ls cells slots hIv hL (by omega) (by omega))
    · cases hn
  case ixor =>
    cases hl; simp only [mNext] at hn
    split at hn
    · cases hn; exact lv_ixor hx hb hd (kk H locs ls cells slots hIv hL (by omega) (by omega))
    · cases hn
  case ishl =>
    cases hl; simp only [mNext] at hn
    split at hn
    · cases hn; exact lv_ishl hx hb hd (kk H locs ls cells slots hIv hL (by omega) (by omega))
    · cases hn
  case ishr =>
    cases hl; simp only [mNext] at hn
    split at hn
    · cases hn; exact lv_ishr hx hb hd (kk H locs ls cells slots hIv hL (by omega) (by omega))
    · cases hn
  case iushr =>
    cases hl; simp only [mNext] at hn
    split at hn
    · cases hn; exact lv_iushr hx hb hd rfl (kk H locs ls cells slots hIv hL (by omega) (by omega))
    · cases hn
  case i2l =>
    cases hl; simp only [mNext] at hn
    split at hn
    · cases hn; exact lv_i2l hx hb hd rfl (kk H locs ls cells slots hIv hL (by omega) (by omega))
    · cases hn
  case l2i =>
    cases hl; simp only [mNext] at hn
    split at hn
    · cases hn; exact lv_l2i hx hb hd rfl (kk H locs ls cells slots hIv hL (by omega) (by omega))
    · cases hn
  case ladd =>
    cases hl; simp only [mNext] at hn
    split at hn
    · cases hn; exact lv_ladd hx hb hd (kk H locs ls cells slots hIv hL (by omega) (by omega))
    · cases hn
  case lmul =>
    cases hl; simp only [mNext] at hn
    split at hn
    · cases hn; exact lv_lmul hx hb hd (kk H locs ls cells slots hIv hL (by omega) (by omega))
    · cases hn
  case lcmp =>
    cases hl; simp only [mNext] at hn
    split at hn
    · cases hn; exact W.lcmp hx hb hd (kk H locs ls cells slots hIv hL (by omega) (by omega))
    · cases hn
  case dup =>
    cases hl; simp only [mNext] at hn
    split at hn
    · split at hn
      · rename_i h0; cases hn; exact lv_dup hx hb hd (by rw [sh_cat]; exact h0) (kk H locs ls cells slots hIv hL (by omega) (by omega))
      · cases hn
    · cases hn
  case dup2 =>
    cases hl; simp only [mNext] at hn
    split at hn
    · split at hn
      · rename_i h0; cases hn; exact lv_dup2_11 hx hb hd (by rw [sh_cat]; exact h0.1) (by rw [sh_cat]; exact h0.2) (kk H locs ls cells slots hIv hL (by omega) (by omega))
      · cases hn
    · cases hn
  case pop =>
    cases hl; simp only [mNext] at hn
    split at hn
    · split at hn
      · rename_i h0; cases hn; exact lv_pop hx hb hd (by rw [sh_cat]; exact h0) (kk H locs ls cells slots hIv hL (by omega) (by omega))
      · cases hn
    · cases hn
  case goto off =>
    cases hl; simp only [mNext] at hn
    split at hn
    · rename_i h0; cases hn
      exact lv_goto hx hb hd (by simp only [tgt]; omega) (kk H locs ls cells slots hIv hL (by omega) (by omega))
    · cases hn
  case ifnull off =>
    cases hl; simp only [mNext] at hn
    split at hn
    · cases hn; exact lv_ifnull hx hb hd (kk H locs ls cells slots hIv hL (by omega) (by omega))
    · cases hn
  case ifnonnull off =>
    cases hl; simp only [mNext] at hn
    split at hn
    · split at hn
      · rename_i h0; cases hn; exact lv_ifnonnull hx hb hd (by simp only [tgt]; omega) (kk H locs ls cells slots hIv hL (by omega) (by omega))
      · cases hn
    · cases hn
  case if_icmp cd off =>
    cases hl; simp only [mNext] at hn
    split at hn
    · split at hn
      · rename_i y x r h0
        cases hn
        have ht : (pc : Int) + off = (tgt pc off : Int) := by simp only [tgt]; omega
        have k0 := kk H locs ls cells slots hIv hL (by omega) (by omega)
        cases cd
        · exact lv_icmp_eq hx hb hd ht (fun q => by simpa [mCmp, q] using k0) (fun q => by simpa [mCmp, q] using k0)
        · exact lv_icmp_ne hx hb hd ht (fun q => by simpa [mCmp, q] using k0) (fun q => by simpa [mCmp, q] using k0)
        · exact lv_icmp_lt hx hb hd ht (fun q => by simpa [mCmp, q] using k0) (fun q => by simpa [mCmp, q] using k0)
        · exact lv_icmp_ge hx hb hd ht (fun q => by simpa [mCmp, q] using k0) (fun q => by simpa [mCmp, q] using k0)
        · exact lv_icmp_gt hx hb hd ht (fun q => by simpa [mCmp, q] using k0) (fun q => by simpa [mCmp, q] using k0)
        · exact lv_icmp_le hx hb hd ht (fun q => by simpa [mCmp, q] using k0) (fun q => by simpa [mCmp, q] using k0)
      · cases hn
    · cases hn
  case ifCond cd off =>
    cases hl; simp only [mNext] at hn
    split at hn
    · split at hn
      · rename_i x r h0
        cases hn
        have ht : (pc : Int) + off = (tgt pc off : Int) := by simp only [tgt]; omega
        have k0 := kk H locs ls cells slots hIv hL (by omega) (by omega)
        cases cd
        · exact lv_if_eq hx hb hd ht (fun q => by simpa [mCmp, q] using k0) (fun q => by simpa [mCmp, q] using k0)
        · exact lv_if_ne hx hb hd ht (fun q => by simpa [mCmp, q] using k0) (fun q => by simpa [mCmp, q] using k0)
        · exact lv_if_lt hx hb hd ht (fun q => by simpa [mCmp, q] using k0) (fun q => by simpa [mCmp, q] using k0)
        · exact lv_if_ge hx hb hd ht (fun q => by simpa [mCmp, q] using k0) (fun q => by simpa [mCmp, q] using k0)
        · exact lv_if_gt hx hb hd ht (fun q => by simpa [mCmp, q] using k0) (fun q => by simpa [mCmp, q] using k0)
        · exact lv_if_le hx hb hd ht (fun q => by simpa [mCmp, q] using k0) (fun q => by simpa [mCmp, q] using k0)
      · cases hn
    · cases hn
  case tableswitch df lo hi offs =>
    simp only [mNext] at hn
    split at hn
    · split at hn
      · split at hn
        · rename_i h1 h0; cases hn
          exact lv_tableOut hx hb hd h1 (by simp only [tgt]; omega) (kk H locs ls cells slots hIv hL (by omega) (by omega))
        · cases hn
      · split at hn
        · split at hn
          · rename_i h1 _ off ho h0; cases hn
            exact lv_tableIn hx hb hd (fun q => h1 (Or.inl q)) (fun q => h1 (Or.inr q)) ho (by simp only [tgt]; omega) (kk H locs ls cells slots hIv hL (by omega) (by omega))
          · cases hn
        · cases hn
    · cases hn
  case invokespecial j =>
    cases hl; simp only [mNext] at hn
    split at hn
    · rename_i hj
      split at hn
      · rename_i a r
        split at hn
        · rename_i h0
          cases hn
          exact W.objInit (g := F0 m pc ls (.ref (ad G a) :: st1.map (sh G))) hx hb hown (hts _ (ob_in hj)) (hts _ obj_in.1) (hts _ obj_in.2) rfl (hL.2.1.trans hml.symm) rfl hd hRf (by show 2 * 0 + _ + 12 ≤ _; rw [sh_sum]; omega) (kk H locs ls cells slots hIv hL (by omega) (by omega))
        · cases hn
      · cases hn
    · cases hn
  case invokestatic j =>
    cases hl; simp only [mNext] at hn
    split at hn
    · rename_i hj
      split at hn
      · rename_i y x r
        split at hn
        · rename_i h0
          cases hn
          obtain ⟨f1, f2, f3, f4⟩ := mx_in
          have hlk : (Cond.methodLink (ownN (oOf M)) j Lib.Math.max.name).before args s = true := by
            rcases cl_in hj with q | q
            · rw [f1]; exact hts _ q
            · exact absurd q.1 (by decide +kernel)
          exact va_mmax hx hb (hml.trans hL.2.1.symm) hown hlk (hts _ f2) (hts _ f3) (hts _ f4) hRf (by rw [sh_sum]; omega) (by omega) (by omega) hd (kk H locs ls cells slots hIv hL (by omega) (by omega))
        · cases hn
      · cases hn
    · cases hn
  case getfield j =>
    cases hl; simp only [mNext] at hn
    split at hn
    · rename_i ci k a r hf
      split at hn
      · rename_i h0
        cases hn
        obtain ⟨g1, g2, g3⟩ := fl_in hf
        have hro := hly.ro (a := a) (by rw [h0.1]; omega)
        have hw := wsG_get (G := G) hro.1 hro.2
        rw [cvE_obj h0.1 g1 hly] at hw
        have hn2 : k < (vC ci).2.2 := by rw [(cl_inst g1).2.2.1]; exact g2
        exact va_get (ci := ci) (C := (vC ci).1) (T := (vC ci).2.1) (N := (vC ci).2.2) hx hb hts (cl_ws g1) hown hK hP (a - 3) hw (vw_at g1) k hn2 (hts _ g3) (fun x hx' => by rw [← (ft_ok g1 g2).1]; exact hx') (v := sh G (μ.2.1 a k)) (by rw [List.getElem?_map, List.getElem?_range g2]; rfl) hd (kk H locs ls cells slots hIv hL (by omega) (by omega))
      · cases hn
    · cases hn
  case putfield j =>
    cases hl; simp only [mNext] at hn
    split at hn
    · rename_i ci k v a r hf
      split at hn
      · rename_i h0
        cases hn
        obtain ⟨g1, g2, g3⟩ := fl_in hf
        have hro := hly.ro (a := a) (by rw [h0.1]; omega)
        have hw := wsG_get (G := G) hro.1 hro.2
        rw [cvE_obj h0.1 g1 hly] at hw
        have hn2 : k < (vC ci).2.2 := by rw [(cl_inst g1).2.2.1]; exact g2
        have hm := put_fits g1 g2 h0.2.2
        have hm' : narrow (tyC ci k) (sh G v) = sh G v ∧ fits (tyC ci k) (sh G v) = true := by
          cases v <;> first | exact hm | skip
          exact put_ref hm.2
        generalize hμ1 : ((μ.1, up1 μ.2.1 a (up1 (μ.2.1 a) k v), μ.2.2.1, μ.2.2.2) : mM) = μ1 at kk hc hs
        have e1 : μ1.1 = μ.1 := by rw [← hμ1]
        have hset : (wsG G μ).set (a - 3) (ad G a, .inr (ci, ((List.range (nfOf ci)).map (fun k => sh G (μ.2.1 a k))).set k (sh G v))) = wsG G μ1 := by
          have := wsG_set (G := G) (μ := μ) (μ1 := μ1) hro.1 hro.2 (by rw [e1]) (fun i hi => by
            rw [← hμ1]; simp only [cvE, up1, if_neg hi])
          rw [← this]
          congr 2
          rw [cvE_obj (by rw [e1]; exact h0.1) g1 (by rw [e1]; exact hly)]
          congr 2
          apply List.ext_getElem?
          intro q
          rw [List.getElem?_set, List.getElem?_map, List.getElem?_map, List.length_map, List.length_range]
          rw [← hμ1]
          by_cases hq : q < nfOf ci
          · rw [List.getElem?_range hq]
            by_cases hkq : k = q
            · subst hkq; simp [up1, hq]
            · simp [up1, hkq, Ne.symm hkq]
          · rw [List.getElem?_eq_none (by simp; omega)]
            have : ¬ k = q := by omega
            simp [this]
        have hE1 : rE G μ1 s := by rw [← hμ1]; exact hE.of (fun _ _ => ⟨rfl, rfl⟩)
        exact sp_put hx hb hts hown hK hP hD hS hw g1 g2 g3 (by simp; exact g2) hm' (fun h9 => by
          have hmp := h0.2.2
          simp only [mayPut, h9, Bool.and_eq_true, Bool.not_true, Bool.false_or, beq_iff_eq] at hmp
          exact ⟨hinit hmp.2.1, hmp.2.2⟩) hd (fun H1 locs1 hP1 hz1 hS1 => by
            rw [hset] at hP1
            exact kk H1 locs1 ls cells slots ⟨by rw [e1]; exact hly, by rw [hz1, e1]; exact hsz, hP1, hS1, hE1⟩ hL (by rw [e1]; omega) (by rw [e1]; omega))
      · cases hn
    · cases hn
  case getstatic j =>
    cases hl; simp only [mNext] at hn
    split at hn
    · rename_i a hf
      cases hn
      obtain ⟨g1, g2⟩ := sl_in hf
      have hz : va_Z "EvenWords$Forms" (sNm a) "[I" (.ref (ad G a)) (aG G) s s.heap := by
        match a, g1 with
        | 0, _ => exact hE.2.1
        | 1, _ => exact hE.2.2.1
        | n + 2, g1 => omega
      exact va_gets hx hb hz hS hown (hts _ g2) (fun _ h9 => h9) hd (kk H locs ls cells slots hIv hL (by omega) (by omega))
    · cases hn
  case iaload =>
    cases hl; simp only [mNext] at hn
    split at hn
    · rename_i i a r
      split at hn
      · rename_i h0
        cases hn
        rcases h0.1 with h6 | h10
        · have hro := hly.ro (a := a) (by rw [h6]; omega)
          have hw := wsG_get (G := G) hro.1 hro.2
          rw [cvE_arr h6 (Or.inl rfl)] at hw
          exact va_iald hx hb hK hP (a - 3) 0 hw rfl (inB_vp h0.2) hd (kk H locs ls cells slots hIv hL (by omega) (by omega))
        · have h3 : a < 3 := by
            apply Nat.not_le.mp
            intro q
            by_cases hN : a < μ.1.1
            · exact absurd (hly.2.2.1 a q hN).1 (by rw [h10]; exact Nat.lt_irrefl 10)
            · exact absurd (hly.2.2.2 a (Nat.le_of_not_lt hN)) (by rw [h10]; decide)
          exact va_ti hx hb (hE.1 a h3) hS (inB_vp h0.2) rfl hd (kk H locs ls cells slots hIv hL (by omega) (by omega))
      · cases hn
    · cases hn
  case baload =>
    cases hl; simp only [mNext] at hn
    split at hn
    · rename_i i a r
      split at hn
      · rename_i h0
        cases hn
        have hro := hly.ro (a := a) (by rw [h0.1]; omega)
        have hw := wsG_get (G := G) hro.1 hro.2
        rw [cvE_arr h0.1 (Or.inr rfl)] at hw
        exact va_zald hx hb hK hP (a - 3) 1 hw rfl (inB_vp h0.2) hd (kk H locs ls cells slots hIv hL (by omega) (by omega))
      · cases hn
    · cases hn
  case aaload =>
    cases hl; simp only [mNext] at hn
    split at hn
    · rename_i i a r
      split at hn
      · rename_i h0
        cases hn
        have hro := hly.ro (a := a) (by omega)
        have hw := wsG_get (G := G) hro.1 hro.2
        rw [cvE_arq rfl h0.1] at hw
        have k0 := kk H locs ls cells slots hIv hL (by omega) (by omega)
        rw [List.map_cons, ← rf_map] at k0
        rcases h0.1 with h8 | h9
        · rw [h8] at hw
          exact va_aldq hx hb hK hP (a - 3) 2 hw rfl (inB_vp h0.2) hd k0
        · rw [h9] at hw
          exact va_aldq hx hb hK hP (a - 3) 3 hw rfl (inB_vp h0.2) hd k0
      · cases hn
    · cases hn
  case iastore =>
    cases hl; simp only [mNext] at hn
    split at hn
    · rename_i x i a r
      split at hn
      · rename_i h0
        cases hn
        have hro := hly.ro (a := a) (by rw [h0.1]; omega)
        have hw := wsG_get (G := G) hro.1 hro.2
        rw [cvE_arr h0.1 (Or.inl rfl)] at hw
        generalize hμ1 : ((μ.1, μ.2.1, up1 μ.2.2.1 a (upd (μ.2.2.1 a) i.toNatClampNeg x), μ.2.2.2) : mM) = μ1 at kk hc hs
        have e1 : μ1.1 = μ.1 := by rw [← hμ1]
        have hset := wsG_set (G := G) (μ := μ) (μ1 := μ1) hro.1 hro.2 (by rw [e1]) (fun j hj => by rw [← hμ1]; simp only [cvE, up1, if_neg hj])
        rw [cvE_arr (by rw [e1]; exact h0.1) (Or.inl rfl)] at hset
        have hE1 : rE G μ1 s := by rw [← hμ1]; exact hE.of (fun j hj => ⟨by show up1 _ a _ j = _; simp [up1, show j ≠ a by omega], rfl⟩)
        exact sp_iast hx hb (hK.2 0 _ rfl).1 hP hD hS hw (inB_vp h0.2) hd (fun H1 locs1 hP1 hz1 hS1 => kk H1 locs1 ls cells slots ⟨by rw [e1]; exact hly, by rw [hz1, e1]; exact hsz, by rw [← hset, e1, ← hμ1]; simpa [up1] using hP1, hS1, hE1⟩ hL (by rw [e1]; omega) (by rw [e1]; omega))
      · cases hn
    · cases hn
  case bastore =>
    cases hl; simp only [mNext] at hn
    split at hn
    · rename_i x i a r
      split at hn
      · rename_i h0
        cases hn
        have hro := hly.ro (a := a) (by rw [h0.1]; omega)
        have hw := wsG_get (G := G) hro.1 hro.2
        rw [cvE_arr h0.1 (Or.inr rfl)] at hw
        generalize hμ1 : ((μ.1, μ.2.1, up1 μ.2.2.1 a (upd (μ.2.2.1 a) i.toNatClampNeg x), μ.2.2.2) : mM) = μ1 at kk hc hs
        have e1 : μ1.1 = μ.1 := by rw [← hμ1]
        have hset := wsG_set (G := G) (μ := μ) (μ1 := μ1) hro.1 hro.2 (by rw [e1]) (fun j hj => by rw [← hμ1]; simp only [cvE, up1, if_neg hj])
        rw [cvE_arr (by rw [e1]; exact h0.1) (Or.inr rfl)] at hset
        have hE1 : rE G μ1 s := by rw [← hμ1]; exact hE.of (fun j hj => ⟨by show up1 _ a _ j = _; simp [up1, show j ≠ a by omega], rfl⟩)
        exact sp_zast hx hb (hK.2 1 _ rfl).1 hP hD hS hw (inB_vp h0.2.1) h0.2.2 hd (fun H1 locs1 hP1 hz1 hS1 => kk H1 locs1 ls cells slots ⟨by rw [e1]; exact hly, by rw [hz1, e1]; exact hsz, by rw [← hset, e1, ← hμ1]; simpa [up1] using hP1, hS1, hE1⟩ hL (by rw [e1]; omega) (by rw [e1]; omega))
      · cases hn
    · cases hn
  case aastore =>
    cases hl; simp only [mNext] at hn
    split at hn
    · rename_i v i a r
      split at hn
      · rename_i h0
        cases hn
        have hro := hly.ro (a := a) (by omega)
        have hw := wsG_get (G := G) hro.1 hro.2
        have h89 : kd μ.1 a = 8 ∨ kd μ.1 a = 9 := by omega
        rw [cvE_arq rfl h89] at hw
        have hrv := hly.ro (a := v) (by omega)
        have hwv := wsG_get (G := G) hrv.1 hrv.2
        rw [cvE_obj rfl (by omega) hly] at hwv
        generalize hμ1 : ((μ.1, μ.2.1, μ.2.2.1, up1 μ.2.2.2 a (up1 (μ.2.2.2 a) i.toNatClampNeg (some v))) : mM) = μ1 at kk hc hs
        have e1 : μ1.1 = μ.1 := by rw [← hμ1]
        have hset := wsG_set (G := G) (μ := μ) (μ1 := μ1) hro.1 hro.2 (by rw [e1]) (fun j hj => by rw [← hμ1]; simp only [cvE, up1, if_neg hj])
        rw [cvE_arq (by rw [e1]) h89] at hset
        have hE1 : rE G μ1 s := by rw [← hμ1]; exact hE.of (fun _ _ => ⟨rfl, rfl⟩)
        have hfun : (fun j => (μ1.2.2.2 a j).map (ad G)) = up1 (fun j => (μ.2.2.2 a j).map (ad G)) i.toNatClampNeg (some (ad G v)) := by
          funext j
          rw [← hμ1]
          by_cases hj : j = i.toNatClampNeg <;> simp [up1, hj]
        rw [hfun, e1] at hset
        have fin : ∀ (H1 : Heap) (locs1 : List Loc), va_P G.1 vwCl ((wsG G μ).set (a - 3) (ad G a, .inl (G.2.1 (kd μ.1 a), ln μ.1 a, .inr (.inr (.inr (.inr (up1 (fun j => (μ.2.2.2 a j).map (ad G)) i.toNatClampNeg (some (ad G v))))))))) H1 → H1.size = H.size → va_S (aG G) s.heap H1 locs1 → W p l e R s m args below meth c H1 locs1 cells slots Q (F0 m (pc + 1) ls (st1.map (sh G))) := fun H1 locs1 hP1 hz1 hS1 => kk H1 locs1 ls cells slots ⟨by rw [e1]; exact hly, by rw [hz1, e1]; exact hsz, by rw [← hset]; exact hP1, hS1, hE1⟩ hL (by rw [e1]; omega) (by rw [e1]; omega)
        rcases h0.1 with ⟨h8, h2⟩ | ⟨h9, h3⟩
        · rw [h8] at hw fin
          rw [h2] at hwv
          exact sp_aast hx hb hK (hK.2 2 _ rfl) (by omega) rfl hP hD hS hw hwv (inB_vp h0.2) hd fin
        · rw [h9] at hw fin
          rw [h3] at hwv
          exact sp_aast hx hb hK (hK.2 3 _ rfl) (by omega) rfl hP hD hS hw hwv (inB_vp h0.2) hd fin
      · cases hn
    · cases hn
  case arraylength =>
    cases hl; simp only [mNext] at hn
    split at hn
    · rename_i a r
      split at hn
      · rename_i h0
        cases hn
        have k0 := kk H locs ls cells slots hIv hL (by omega) (by omega)
        by_cases h10 : kd μ.1 a = 10
        · have h3 : a < 3 := by
            apply Nat.not_le.mp
            intro q
            by_cases hN : a < μ.1.1
            · exact absurd (hly.2.2.1 a q hN).1 (by rw [h10]; exact Nat.lt_irrefl 10)
            · exact absurd (hly.2.2.2 a (Nat.le_of_not_lt hN)) (by rw [h10]; decide)
          obtain ⟨cell, t1, t2, t3, t4, t5, t6, t7⟩ := hE.1 a h3
          exact W.alen (n := Int32.ofNat (ln μ.1 a)) hx hb (by rw [hS.2.1 _ (Array.getElem?_eq_some_iff.mp t1).1 t7]; exact t1) t2 t5 rfl rfl hd k0
        · have hro := hly.ro (a := a) (by omega)
          have hw := wsG_get (G := G) hro.1 hro.2
          have h69 : kd μ.1 a = 6 ∨ kd μ.1 a = 7 ∨ kd μ.1 a = 8 ∨ kd μ.1 a = 9 := by omega
          rcases h69 with h | h | h | h
          · rw [cvE_arr h (Or.inl rfl)] at hw
            exact va_alen hx hb hK hP (a - 3) 0 hw rfl rfl hd k0
          · rw [cvE_arr h (Or.inr rfl)] at hw
            exact va_alen hx hb hK hP (a - 3) 1 hw rfl rfl hd k0
          · rw [cvE_arq h (Or.inl rfl)] at hw
            exact va_alen hx hb hK hP (a - 3) 2 hw rfl rfl hd k0
          · rw [cvE_arq h (Or.inr rfl)] at hw
            exact va_alen hx hb hK hP (a - 3) 3 hw rfl rfl hd k0
      · cases hn
    · cases hn
  case newarray t =>
    cases hl; simp only [mNext] at hn
    have hadN : ad G μ.1.1 = H.size := by rw [ad_hi G hly.1, hsz]
    split at hn
    · rename_i n r
      split at hn
      · cases hn
      · rename_i h0
        cases hn
        generalize hμ1 : (((μ.1.1 + 1, μ.1.2.1 + n.toNatClampNeg, up1 μ.1.2.2 μ.1.1 (6, n.toNatClampNeg)), μ.2.1, up1 μ.2.2.1 μ.1.1 (fun _ => 0), μ.2.2.2) : mM) = μ1 at kk hc hs
        have k9 : kept μ μ1 := by
          have h3 := hly.1
          rw [← hμ1]; exact kept.push hly (by omega) (by omega) (Nat.le_add_right _ _) (fun j hj => by simp [up1, show j ≠ μ.1.1 by omega])
        have e1 : μ1.1.1 = μ.1.1 + 1 := by rw [← hμ1]
        have e2 : μ1.1.2.1 = μ.1.2.1 + n.toNatClampNeg := by rw [← hμ1]
        have hps := wsG_push (G := G) (μ := μ) (μ1 := μ1) hly.1 e1 (fun j hj => by rw [← hμ1]; simp only [cvE, kd, ln, up1, if_neg hj]; try rfl)
        have hcv : cvE G μ1 μ.1.1 = .inl (G.2.1 6, n.toNatClampNeg, .inl (fun _ => 0)) := by rw [← hμ1]; simp [cvE, kd, ln, up1]
        rw [hcv, hadN] at hps
        rw [List.map_cons, sh_ref, hadN] at kk
        exact sp_newa (cA := G.2.1 6) hx hb hts arr_in.1 rfl (hK.2 0 _ rfl).2 hP hS (fun cA => rfl) (fun q => h0 (Or.inl q)) rfl (by show _ * 4 ≤ _; omega) (by omega) (by omega) hd (fun H1 hP1 hz1 hS1 => kk H1 locs ls _ _ ⟨k9.1, by rw [hz1, hsz, e1]; have := hly.1; omega, by rw [← hps]; exact hP1, hS1, hE.of k9.2.2.2⟩ hL (by omega) (by omega))
    · rename_i n r
      split at hn
      · cases hn
      · rename_i h0
        cases hn
        generalize hμ1 : (((μ.1.1 + 1, μ.1.2.1 + n.toNatClampNeg, up1 μ.1.2.2 μ.1.1 (7, n.toNatClampNeg)), μ.2.1, up1 μ.2.2.1 μ.1.1 (fun _ => 0), μ.2.2.2) : mM) = μ1 at kk hc hs
        have k9 : kept μ μ1 := by
          have h3 := hly.1
          rw [← hμ1]; exact kept.push hly (by omega) (by omega) (Nat.le_add_right _ _) (fun j hj => by simp [up1, show j ≠ μ.1.1 by omega])
        have e1 : μ1.1.1 = μ.1.1 + 1 := by rw [← hμ1]
        have e2 : μ1.1.2.1 = μ.1.2.1 + n.toNatClampNeg := by rw [← hμ1]
        have hps := wsG_push (G := G) (μ := μ) (μ1 := μ1) hly.1 e1 (fun j hj => by rw [← hμ1]; simp only [cvE, kd, ln, up1, if_neg hj]; try rfl)
        have hcv : cvE G μ1 μ.1.1 = .inl (G.2.1 7, n.toNatClampNeg, .inl (fun _ => 0)) := by rw [← hμ1]; simp [cvE, kd, ln, up1]
        rw [hcv, hadN] at hps
        rw [List.map_cons, sh_ref, hadN] at kk
        exact sp_newa (cA := G.2.1 7) hx hb hts arr_in.2 rfl (hK.2 1 _ rfl).2 hP hS (fun cA => rfl) (fun q => h0 (Or.inl q)) rfl (by show _ * 1 ≤ _; omega) (by omega) (by omega) hd (fun H1 hP1 hz1 hS1 => kk H1 locs ls _ _ ⟨k9.1, by rw [hz1, hsz, e1]; have := hly.1; omega, by rw [← hps]; exact hP1, hS1, hE.of k9.2.2.2⟩ hL (by omega) (by omega))
    · cases hn
  case anewarray j =>
    cases hl; simp only [mNext] at hn
    have hadN : ad G μ.1.1 = H.size := by rw [ad_hi G hly.1, hsz]
    split at hn
    · rename_i ci n r hj
      split at hn
      · cases hn
      · rename_i h0
        cases hn
        generalize hμ1 : (((μ.1.1 + 1, μ.1.2.1 + n.toNatClampNeg, up1 μ.1.2.2 μ.1.1 (ci + 6, n.toNatClampNeg)), μ.2.1, μ.2.2.1, up1 μ.2.2.2 μ.1.1 (fun _ => none)) : mM) = μ1 at kk hc hs
        have k9 : kept μ μ1 := by
          rw [← hμ1]; exact kept.push hly (by omega) (by omega) (Nat.le_add_right _ _) (fun _ _ => rfl)
        have e1 : μ1.1.1 = μ.1.1 + 1 := by rw [← hμ1]
        have e2 : μ1.1.2.1 = μ.1.2.1 + n.toNatClampNeg := by rw [← hμ1]
        have hps := wsG_push (G := G) (μ := μ) (μ1 := μ1) hly.1 e1 (fun j hj => by rw [← hμ1]; simp only [cvE, kd, ln, up1, if_neg hj]; try rfl)
        have h23 : ci = 2 ∨ ci = 3 := by omega
        have hcv : cvE G μ1 μ.1.1 = .inl (G.2.1 (ci + 6), n.toNatClampNeg, .inr (.inr (.inr (.inr (fun _ => none))))) := by
          rw [← hμ1]; rcases h23 with rfl | rfl <;> simp [cvE, kd, ln, up1]
        rw [hcv, hadN] at hps
        rw [List.map_cons, sh_ref, hadN] at kk
        have fin : ∀ H1 : Heap, va_P G.1 vwCl (wsG G μ ++ [(H.size, .inl (G.2.1 (ci + 6), n.toNatClampNeg, .inr (.inr (.inr (.inr (fun _ => none))))))]) H1 → H1.size = H.size + 1 → va_S (aG G) s.heap H1 locs → W p l e R s m args below meth c H1 locs (cells + 1) (slots + n.toNatClampNeg) Q (F0 m (pc + 3) ls (.ref H.size :: r.map (sh G))) := fun H1 hP1 hz1 hS1 => kk H1 locs ls _ _ ⟨k9.1, by rw [hz1, hsz, e1]; have := hly.1; omega, by rw [← hps]; exact hP1, hS1, hE.of k9.2.2.2⟩ hL (by omega) (by omega)
        obtain ⟨g1, g2⟩ := nl_in hj
        rcases h23 with rfl | rfl
        · exact sp_newq hx hb hts hown g2 rfl hE.2.2.2.1 (hK.2 2 _ rfl).2 hP hS (fun q => h0 (Or.inl q)) rfl (by omega) (by omega) (by omega) hd fin
        · exact sp_newq hx hb hts hown g2 rfl hE.2.2.2.2.1 (hK.2 3 _ rfl).2 hP hS (fun q => h0 (Or.inl q)) rfl (by omega) (by omega) (by omega) hd fin
    · cases hn
  case new j =>
    cases hl; simp only [mNext] at hn
    have hadN : ad G μ.1.1 = H.size := by rw [ad_hi G hly.1, hsz]
    split at hn
    · rename_i ci hj
      split at hn
      · rename_i h0
        cases hn
        generalize hμ1 : (((μ.1.1 + 1, μ.1.2.1 + nfOf ci, up1 μ.1.2.2 μ.1.1 (ci, nfOf ci)), up1 μ.2.1 μ.1.1 (rw' (dfOf ci)), μ.2.2.1, μ.2.2.2) : mM) = μ1 at kk hc hs
        have k9 : kept μ μ1 := by
          rw [← hμ1]; exact kept.push hly (by omega) (fun _ => rfl) (Nat.le_add_right _ _) (fun _ _ => rfl)
        have e1 : μ1.1.1 = μ.1.1 + 1 := by rw [← hμ1]
        have e2 : μ1.1.2.1 = μ.1.2.1 + nfOf ci := by rw [← hμ1]
        have hps := wsG_push (G := G) (μ := μ) (μ1 := μ1) hly.1 e1 (fun j hj => by rw [← hμ1]; simp only [cvE, kd, ln, up1, if_neg hj]; try rfl)
        have hcv : cvE G μ1 μ.1.1 = .inr (ci, dfOf ci) := by
          rw [← hμ1]
          simp only [cvE, kd, ln, up1, if_true, if_pos h0]
          congr 2
          exact df_map G h0
        rw [hcv, hadN] at hps
        rw [List.map_cons, sh_ref, hadN] at kk
        exact sp_new hx hb hts hown h0 (nl_in hj).2 hK hP hS (by omega) (by omega) hd (fun H1 hP1 hz1 hS1 => kk H1 locs ls _ _ ⟨k9.1, by rw [hz1, hsz, e1]; have := hly.1; omega, by rw [← hps]; exact hP1, hS1, hE.of k9.2.2.2⟩ hL (by omega) (by omega))
      · cases hn
    · cases hn
  all_goals (exfalso; simp [mNext] at hn)
end XS
