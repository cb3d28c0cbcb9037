/-! writing and making cells, with the heap's size -/
theorem put_ref {ty : FieldType} {a b : Nat} (h : fits ty (.ref a) = true) : narrow ty (.ref b) = .ref b ∧ fits ty (.ref b) = true := by
  cases ty <;> first | exact ⟨rfl, rfl⟩ | (simp [fits] at h)
section SP
variable {p : Program} {l : Launch} {e : Env} {R : Room} {s : State} {m : MethodId} {args : Array Value} {below : List Frame} {meth : Method} {c : Code} {H : Heap} {locs : List Loc} {cells slots : Nat} {Q : State → Prop}
variable {cc : ByteArray} {pc : Nat} {ls : Array Slot} {rest : List Value} {G : sGw} {ws : va_W} {a : Nat}
theorem sp_put {o j ci k q0 : Nat} {fs : List Value} {v : Value} (hx : p.tables.exec = Jvm.exec) (hb : c.code = cc) (hts : ∀ w ∈ gT, w.before args s = true) (hown : s.vm.findClass (ownN o) = some m.cls) (hK : va_K G.1 vwCl (tysG G) s) (hP : va_P G.1 vwCl ws H) (hD : va_D (aG G) ws) (hS0 : va_S (aG G) s.heap H locs) (he : ws[q0]? = some (a, .inr (ci, fs))) (g1 : ci < 5) (g2 : k < nfOf ci) (g3 : (Cond.fieldLink (ownN o) j (vC ci).1 ((vC ci).2.1 k).2.1 ((vC ci).2.1 k).2.2.1) ∈ gT) (hl : k < fs.length) (hfit : narrow (tyC ci k) v = v ∧ fits (tyC ci k) v = true) (hfin : (ftOf ci k).2 = true → meth.name = "<init>" ∧ o = ci) (hd : decode cc pc = .ok (.putfield j, 3))
    (kk : ∀ (H1 : Heap) (locs1 : List Loc), va_P G.1 vwCl (ws.set q0 (a, .inr (ci, fs.set k v))) H1 → H1.size = H.size → va_S (aG G) s.heap H1 locs1 → W p l e R s m args below meth c H1 locs1 cells slots Q (F0 m (pc + 3) ls rest)) : W p l e R s m args below meth c H locs cells slots Q (F0 m pc ls (v :: .ref a :: rest)) := by
  have hn2 : k < (vC ci).2.2 := by rw [(cl_inst g1).2.2.1]; exact g2
  have hap := va_apart (own := ownN o) hts (cl_ws g1) (tyC ci) (cl_ty g1) (cl_nm g1) hK (cl_inst g1).2.2.2
  obtain ⟨r, h1, cell, q1, q2, q3, q4⟩ := hP q0 _ he
  have hr := Option.some.inj (h1.symm.trans (cl_inst g1).2.2.2)
  subst hr
  obtain ⟨hSl, hfc, kC, hkC, hkind⟩ := hK.1 ci _ (cl_inst g1).2.2.2
  obtain ⟨cf, kf, fi, f, hi, hsl⟩ := hSl k hn2
  obtain ⟨t1, t2, -, t4⟩ := ft_ok g1 g2
  have hst := (u_facts hfc hkC (u_lays hts (cl_ws g1) hn2) hi).1
  have hi' : s.fieldFound? (vC ci).1 ((vC ci).2.1 k).2.1 ((vC ci).2.1 k).2.2.1 = some (cf, kf, fi, f) := by rw [← t1]; exact hi
  have hslot : f.slot < cell.slots.size := by rw [hsl]; exact k2_hasslot (q4 k hn2)
  have done : ∀ H' : Heap, H'[a]? = some (cell.setSlot f.slot v) → H'.size = H.size → (∀ q, q ≠ a → H'[q]? = H[q]?) → W p l e R s m args below meth c H' (locs ++ [⟨a, f.slot⟩]) cells slots Q (F0 m (pc + 3) ls rest) := by
    intro H' e1 e2 e3
    rw [hsl] at e1 ⊢
    exact kk H' _ (hP.set hD he ⟨_, h1, t_OB.to (V := updV (vp_V fs) k v) ⟨_, e1, q2, q3, t_set q4 hap hn2 v⟩ (fun j _ => vp_updV_set hl v j)⟩ e3) e2 (hS0.put e2 e3 (hD.2 q0 _ he))
  have hlay := hts _ (cl_ws g1 _ (u_in_lay hn2))
  unfold u_lay at hlay
  rw [t2] at hlay
  cases hb9 : (ftOf ci k).2
  · rw [if_neg (by rw [hb9]; decide)] at hlay
    exact W.putK (g := F0 m pc ls (v :: .ref a :: rest)) hx hb (f := f) ⟨hown, hts _ g3, ⟨_, _, _, hi'⟩, hst⟩ (by rw [q2]; exact u_store hfc hkC hkind hlay hi (cl_ty g1 k hn2) hfit.1 hfit.2) q1 q3 hslot rfl rfl hd done
  · rw [if_pos hb9] at hlay
    obtain ⟨f1, f2⟩ := hfin hb9
    have hcf : m.cls = cf := by
      obtain ⟨_, _, c', _, _, _, -, -, hf', -, -, -, hown2, -⟩ := Cond.laysFinal_spec hlay
      have e1 : c' = cf := by have := hi.symm.trans hf'; simp at this; exact this.1.symm
      rw [t1, t4, ← f2] at hown2
      rw [← e1]
      exact Option.some.inj (hown.symm.trans hown2)
    exact W.putFinK (g := F0 m pc ls (v :: .ref a :: rest)) hx hb hown (hts _ g3) hi' hst hcf f1 (by rw [q2]; exact u_fits hfc hkC hkind (Or.inr hlay) hi (cl_ty g1 k hn2) hfit.1 hfit.2) q1 q3 hslot rfl rfl hd done
theorem sp_iast {q0 cA : Nat} {n : Nat} {f : Nat → Int32} {i x : Int32} (hx : p.tables.exec = Jvm.exec) (hb : c.code = cc) (hK : ArrOfT s cA .int) (hP : va_P G.1 vwCl ws H) (hD : va_D (aG G) ws) (hS : va_S (aG G) s.heap H locs) (ha : ws[q0]? = some (a, .inl (cA, n, .inl f))) (hin : vp_in i n) (hd : decode cc pc = .ok (.iastore, 1))
    (kk : ∀ (H1 : Heap) (locs1 : List Loc), va_P G.1 vwCl (ws.set q0 (a, .inl (cA, n, .inl (upd f i.toNatClampNeg x)))) H1 → H1.size = H.size → va_S (aG G) s.heap H1 locs1 → W p l e R s m args below meth c H1 locs1 cells slots Q (F0 m (pc + 1) ls rest)) : W p l e R s m args below meth c H locs cells slots Q (F0 m pc ls (.int x :: .int i :: .ref a :: rest)) := by
  refine W.iast (g := F0 m pc ls (.int x :: .int i :: .ref a :: rest)) hx hb (hP q0 _ ha) (hK n (fun j => .int (f j))) (fun q => by cases q) (by show ¬ (i < 0 ∨ (arrV _ _ _).slots.size ≤ _); rw [arrV_size]; exact hin) rfl rfl hd fun H1 e1 z oq => ?_
  refine kk H1 _ (hP.set hD ha ?_ oq) z (hS.put z oq (hD.2 q0 _ ha))
  show H1[a]? = some (arrV cA n (fun j => .int (upd f i.toNatClampNeg x j)))
  rw [e1]
  show some ((arrV cA n (fun j => .int (f j))).setSlot _ _) = _
  rw [arrV_store]
  congr 2
  funext q
  by_cases hq : q = i.toNatClampNeg <;> simp [updV, upd, hq]
theorem sp_zast {q0 cA : Nat} {n : Nat} {f : Nat → Int32} {i x : Int32} (hx : p.tables.exec = Jvm.exec) (hb : c.code = cc) (hK : ArrOfT s cA .boolean) (hP : va_P G.1 vwCl ws H) (hD : va_D (aG G) ws) (hS : va_S (aG G) s.heap H locs) (ha : ws[q0]? = some (a, .inl (cA, n, .inl f))) (hin : vp_in i n) (h01 : x = 0 ∨ x = 1) (hd : decode cc pc = .ok (.bastore, 1))
    (kk : ∀ (H1 : Heap) (locs1 : List Loc), va_P G.1 vwCl (ws.set q0 (a, .inl (cA, n, .inl (upd f i.toNatClampNeg x)))) H1 → H1.size = H.size → va_S (aG G) s.heap H1 locs1 → W p l e R s m args below meth c H1 locs1 cells slots Q (F0 m (pc + 1) ls rest)) : W p l e R s m args below meth c H locs cells slots Q (F0 m pc ls (.int x :: .int i :: .ref a :: rest)) := by
  have hnar : narrow .boolean (.int x) = .int x := by rcases h01 with rfl | rfl <;> rfl
  refine W.zast (g := F0 m pc ls (.int x :: .int i :: .ref a :: rest)) hx hb (hP q0 _ ha) (hK n (fun j => .int (f j))) (fun q => by cases q) (by show ¬ (i < 0 ∨ (arrV _ _ _).slots.size ≤ _); rw [arrV_size]; exact hin) rfl rfl hd fun H1 e1 z oq => ?_
  refine kk H1 _ (hP.set hD ha ?_ oq) z (hS.put z oq (hD.2 q0 _ ha))
  show H1[a]? = some (arrV cA n (fun j => .int (upd f i.toNatClampNeg x j)))
  rw [e1, hnar]
  show some ((arrV cA n (fun j => .int (f j))).setSlot _ _) = _
  rw [arrV_store]
  congr 2
  funext q
  by_cases hq : q = i.toNatClampNeg <;> simp [updV, upd, hq]
theorem sp_aast {q0 qk ci cA v : Nat} {n : Nat} {C : String} {vs : List Value} {f : Nat → Option Nat} {i : Int32} (hx : p.tables.exec = Jvm.exec) (hb : c.code = cc) (hK : va_K G.1 vwCl (tysG G) s) (hA : ArrOfT s cA (.object C) ∧ va_RA s cA (.object C)) (g1 : ci < 5) (hC : (vC ci).1 = C) (hP : va_P G.1 vwCl ws H) (hD : va_D (aG G) ws) (hS : va_S (aG G) s.heap H locs) (ha : ws[q0]? = some (a, .inl (cA, n, .inr (.inr (.inr (.inr f)))))) (hv : ws[qk]? = some (v, .inr (ci, vs))) (hin : vp_in i n) (hd : decode cc pc = .ok (.aastore, 1))
    (kk : ∀ (H1 : Heap) (locs1 : List Loc), va_P G.1 vwCl (ws.set q0 (a, .inl (cA, n, .inr (.inr (.inr (.inr (up1 f i.toNatClampNeg (some v)))))))) H1 → H1.size = H.size → va_S (aG G) s.heap H1 locs1 → W p l e R s m args below meth c H1 locs1 cells slots Q (F0 m (pc + 1) ls rest)) : W p l e R s m args below meth c H locs cells slots Q (F0 m pc ls (.ref v :: .int i :: .ref a :: rest)) := by
  have hlt : i.toNatClampNeg < n := Nat.not_le.mp fun q => hin (Or.inr q)
  have h0 : ¬ i < 0 := fun q => hin (Or.inl q)
  obtain ⟨r', hr', cellV, u1, u2, u3, -⟩ := hP qk _ hv
  have hcls := (hK.1 ci _ (cl_inst g1).2.2.2).2
  obtain ⟨kA, comp, k1, k2, k3, -⟩ := hA.2
  rw [← hC] at k3
  have hcomp : comp = G.1.1 ci := Option.some.inj (k3.symm.trans hcls.1)
  subst hcomp
  obtain ⟨kC, hkC, -⟩ := hcls.2
  refine W.aast (g := F0 m pc ls (.ref v :: .int i :: .ref a :: rest)) hx hb (hP q0 _ ha) (fun q h => by cases h) (fun h => by cases h) k1 k2 rfl hkC ⟨h0, by show _ < (arrV _ _ _).slots.size; rw [arrV_size]; exact hlt⟩ u1 (fun q h => by rw [u3] at h; cases h) (by rw [u2]; exact hkC) (by rw [u2]; exact va_assign hcls) rfl rfl hd fun H1 e1 z oq => ?_
  refine kk H1 _ (hP.set hD ha ?_ oq) z (hS.put z oq (hD.2 q0 _ ha))
  show H1[a]? = some (arrV cA n (fun j => va_rf (up1 f i.toNatClampNeg (some v) j)))
  rw [e1]
  show some ((arrV cA n (fun j => va_rf (f j))).setSlot _ _) = _
  rw [arrV_store]
  congr 2
  funext q
  by_cases hq : q = i.toNatClampNeg <;> simp [updV, up1, va_rf, hq]
/-- a new cell, behind all others -/
theorem sp_push {H1 : Heap} {q : Nat} {E : va_E} (hP : va_P G.1 vwCl ws H) (hS : va_S (aG G) s.heap H locs) (hq : H.size = q) (hz : H1.size = q + 1) (ho : ∀ x, x < q → H1[x]? = H[x]?) (hE : va_at G.1 vwCl (q, E) H1) : va_P G.1 vwCl (ws ++ [(q, E)]) H1 ∧ va_S (aG G) s.heap H1 locs := by
  subst hq
  have hk : ∀ (k : Nat) (x : Nat × va_E), ws[k]? = some x → H1[x.1]? = H[x.1]? := fun k x hx => ho x.1 ((hP k x hx).lt)
  refine ⟨(hP.kept hk).app (fun k x hx => ?_), Nat.le_trans hS.1 (by omega), fun x h1 h2 => (ho x (Nat.lt_of_lt_of_le h1 hS.1)).trans (hS.2.1 x h1 h2), hS.2.2⟩
  have hz : k < 1 := (List.getElem?_eq_some_iff.mp hx).1
  rw [show k = 0 by omega] at hx
  cases hx
  exact hE
theorem sp_newa {at9 : ArrayType} {ty : FieldType} {cA : Nat} {n : Int32} {N' : Nat} {a0 : vp_A} (hx : p.tables.exec = Jvm.exec) (hb : c.code = cc) (hts : ∀ w ∈ gT, w.before args s = true) (hw : (Cond.arrayClass ty) ∈ gT) (hty : newarray.typeOf at9 = ty) (hcA : s.vm.findClass ("[" ++ ty.toString) = some cA) (hP : va_P G.1 vwCl ws H) (hS : va_S (aG G) s.heap H locs) (ha : ∀ cA : ClassId, vp_cell cA a0 = arrV cA N' (fun _ => defaultValue ty)) (hn : ¬ n < 0) (hN : n.toNatClampNeg = N') (hbytes : N' * componentBytes ty ≤ 536870912) (hcells : cells + 1 ≤ R.cells) (hslots : slots + N' ≤ R.slots) (hd : decode cc pc = .ok (.newarray at9, 2))
    (kk : ∀ H1 : Heap, va_P G.1 vwCl (ws ++ [(H.size, .inl (cA, a0))]) H1 → H1.size = H.size + 1 → va_S (aG G) s.heap H1 locs → W p l e R s m args below meth c H1 locs (cells + 1) (slots + N') Q (F0 m (pc + 2) ls (.ref H.size :: rest))) : W p l e R s m args below meth c H locs cells slots Q (F0 m pc ls (.int n :: rest)) := by
  subst hty
  refine va_newaK (g := F0 m pc ls (.int n :: rest)) hx hb (hts _ hw) rfl hd rfl hn hN hbytes hcells hslots rfl fun H1 cA' e1 z1 o1 hAr hNm => ?_
  have hc : cA' = cA := Option.some.inj (hNm.symm.trans hcA)
  subst hc
  obtain ⟨r1, r2⟩ := sp_push (E := .inl (cA', a0)) hP hS rfl z1 o1 (by show H1[H.size]? = some (vp_cell _ _); rw [ha]; exact e1)
  exact kk H1 r1 z1 r2
theorem sp_newq {o j ci cA : Nat} {C : String} {n : Int32} {N' : Nat} (hx : p.tables.exec = Jvm.exec) (hb : c.code = cc) (hts : ∀ w ∈ gT, w.before args s = true) (hown : s.vm.findClass (ownN o) = some m.cls) (hcl : (Cond.classLink (ownN o) j (vC ci).1) ∈ gT) (hC : (vC ci).1 = C) (hAO : va_AO C s) (hRA : va_RA s cA (.object C)) (hP : va_P G.1 vwCl ws H) (hS : va_S (aG G) s.heap H locs) (hn : ¬ n < 0) (hN : n.toNatClampNeg = N') (hbytes : N' * 4 ≤ 536870912) (hcells : cells + 1 ≤ R.cells) (hslots : slots + N' ≤ R.slots) (hd : decode cc pc = .ok (.anewarray j, 3))
    (kk : ∀ H1 : Heap, va_P G.1 vwCl (ws ++ [(H.size, .inl (cA, N', .inr (.inr (.inr (.inr (fun _ => none))))))]) H1 → H1.size = H.size + 1 → va_S (aG G) s.heap H1 locs → W p l e R s m args below meth c H1 locs (cells + 1) (slots + N') Q (F0 m (pc + 3) ls (.ref H.size :: rest))) : W p l e R s m args below meth c H locs cells slots Q (F0 m pc ls (.int n :: rest)) := by
  subst hN
  rw [hC] at hcl
  refine W.anew (g := F0 m pc ls (.int n :: rest)) hx hb hown (hts _ hcl) (va_AO.use hAO) rfl hd rfl hn hbytes hcells hslots fun cA' kA comp f1 f2 f3 f4 => ?_
  obtain ⟨_, _, -, -, -, h4⟩ := hRA
  have hc : cA' = cA := Option.some.inj (f1.symm.trans h4)
  subst hc
  generalize hH1 : H.push ({ cls := cA', slots := Array.replicate n.toNatClampNeg .null, vm := .none } : Cell) = H1
  have z1 : H1.size = H.size + 1 := by rw [← hH1, Array.size_push]
  have e1 : H1[H.size]? = some (arrV cA' n.toNatClampNeg (fun _ => .null)) := by rw [← hH1, Array.getElem?_push_size, ← arrV_new]
  have o1 : ∀ q : Nat, q < H.size → H1[q]? = H[q]? := fun q hq => by rw [← hH1, Array.getElem?_push, if_neg (Nat.ne_of_lt hq)]
  obtain ⟨r1, r2⟩ := sp_push (E := .inl (cA', n.toNatClampNeg, .inr (.inr (.inr (.inr (fun _ => none)))))) hP hS rfl z1 o1 (by show H1[H.size]? = some (vp_cell _ _); rw [vp_cell_q]; exact e1)
  exact kk H1 r1 z1 r2
theorem sp_new {o j ci : Nat} (hx : p.tables.exec = Jvm.exec) (hb : c.code = cc) (hts : ∀ w ∈ gT, w.before args s = true) (hown : s.vm.findClass (ownN o) = some m.cls) (g1 : ci < 5) (hcl : (Cond.classLink (ownN o) j (vC ci).1) ∈ gT) (hK : va_K G.1 vwCl (tysG G) s) (hP : va_P G.1 vwCl ws H) (hS : va_S (aG G) s.heap H locs) (hcells : cells + 1 ≤ R.cells) (hslots : slots + nfOf ci ≤ R.slots) (hd : decode cc pc = .ok (.new j, 3))
    (kk : ∀ H1 : Heap, va_P G.1 vwCl (ws ++ [(H.size, .inr (ci, dfOf ci))]) H1 → H1.size = H.size + 1 → va_S (aG G) s.heap H1 locs → W p l e R s m args below meth c H1 locs (cells + 1) (slots + nfOf ci) Q (F0 m (pc + 3) ls (.ref H.size :: rest))) : W p l e R s m args below meth c H locs cells slots Q (F0 m pc ls rest) := by
  obtain ⟨w1, w2, w3, w4⟩ := cl_inst g1
  have hKn := hK.1 ci _ w4
  rw [← w3] at hslots
  refine W.newcK (g := F0 m pc ls rest) hx hb hown (hts _ hcl) (hts _ w1) (hts _ w2) rfl hd hcells hslots hKn.2.1 rfl fun H1 kC hkC e1 z1 o1 => ?_
  obtain ⟨r1, r2⟩ := sp_push (E := .inr (ci, dfOf ci)) hP hS rfl z1 o1 ⟨_, w4, (u_born (tyC ci) hts (cl_ws g1) hKn hkC e1 (cl_ty g1)).to (fun q hq => (ft_ok g1 (by rw [← w3]; exact hq)).2.2.1)⟩
  rw [w3]
  exact kk H1 r1 z1 r2
end SP
