section Xb
variable {d : Nat} {L st : List Value} {μ : mM} {Q : Option Value → mM → Prop} {t : mL} {V : Nat → Nat → Value} {A : Nat → Nat → Int32} {P : Nat → Nat → Option Nat} {N S : Nat} {K : Nat → Nat × Nat}
variable {a0 a1 a2 a3 a4 a5 a6 a7 a8 a9 a10 a11 a12 b0 b1 b2 b3 s0 s1 s2 s3 : Value} {x y : Int32} {w z : Int64} {r q : Nat}
theorem c_13 : Call (d + 1) 13 [a0] μ Q = Ev d 13 0 [a0] [] μ Q := call_ev rfl
theorem x_13_0 : Ev d 13 0 (.ref r :: L) st μ Q = Ev d 13 1 (.ref r :: L) (.ref r :: st) μ Q := e_aload_n (by decide +kernel : decode (bOf 13) 0 = .ok (.aload_n 0, 1)) rfl
theorem x_13_1 : Ev d 13 1 L (.ref r :: st) μ Q = Ev d 13 4 L st μ Q := e_obj (by decide +kernel : decode (bOf 13) 1 = .ok (.invokespecial 3, 3)) (by decide +kernel) (by decide +kernel)
theorem x_13_4 : Ev d 13 4 (.ref r :: L) st μ Q = Ev d 13 5 (.ref r :: L) (.ref r :: st) μ Q := e_aload_n (by decide +kernel : decode (bOf 13) 4 = .ok (.aload_n 0, 1)) rfl
theorem x_13_5 : Ev d 13 5 L st μ Q = Ev d 13 7 L (.int (iI 32) :: st) μ Q := e_bipush (by decide +kernel : decode (bOf 13) 5 = .ok (.bipush 32, 2)) (by decide +kernel)
theorem x_13_7 : Ev d 13 7 L (.int (iI 32) :: st) ((N, S, K), V, A, P) Q = Ev d 13 9 L (.ref N :: st) ((N + 1, S + 32, up1 K N (6, 32)), V, up1 A N (fun _ => 0), P) Q := e_newi 32 (by decide +kernel : decode (bOf 13) 7 = .ok (.newarray .int, 2)) (by decide +kernel) (by decide +kernel)
theorem x_13_9 (h : kd t r = 1) : Ev d 13 9 L (.ref q :: .ref r :: st) (t, V, A, P) Q = Ev d 13 12 L st (t, up1 V r (up1 (V r) 0 (.ref q)), A, P) Q := e_putf (by decide +kernel : decode (bOf 13) 9 = .ok (.putfield 9, 3)) (by decide +kernel) (by decide +kernel) rfl h
theorem x_13_12 : Ev d 13 12 (.ref r :: L) st μ Q = Ev d 13 13 (.ref r :: L) (.ref r :: st) μ Q := e_aload_n (by decide +kernel : decode (bOf 13) 12 = .ok (.aload_n 0, 1)) rfl
theorem x_13_13 : Ev d 13 13 L st ((N, S, K), V, A, P) Q = Ev d 13 16 L (.ref N :: st) ((N + 1, S + 5, up1 K N (2, 5)), up1 V N (rw' [.int 0, .int 0, .int 0, .int 0, .int 0]), A, P) Q := e_new 5 [.int 0, .int 0, .int 0, .int 0, .int 0] (by decide +kernel : decode (bOf 13) 13 = .ok (.new 15, 3)) (by decide +kernel) (by decide +kernel) (by decide +kernel) (by decide +kernel)
theorem x_13_16 : Ev d 13 16 L (.ref r :: st) μ Q = Ev d 13 17 L (.ref r :: .ref r :: st) μ Q := e_dup_a (by decide +kernel : decode (bOf 13) 16 = .ok (.dup, 1))
theorem x_13_17 : Ev d 13 17 L [.ref r, s0, s1] μ Q = Call d 23 [.ref r] μ (fun v μ1 => Ev d 13 20 L (v.toList ++ [s0, s1]) μ1 Q) := e_callI (a := []) (r := [s0, s1]) (by decide +kernel : decode (bOf 13) 17 = .ok (.invokespecial 17, 3)) (by decide +kernel) (by decide +kernel) (by decide +kernel) (by decide +kernel) rfl (by simp)
theorem x_13_20 (h : kd t r = 1) : Ev d 13 20 L (.ref q :: .ref r :: st) (t, V, A, P) Q = Ev d 13 23 L st (t, up1 V r (up1 (V r) 1 (.ref q)), A, P) Q := e_putf (by decide +kernel : decode (bOf 13) 20 = .ok (.putfield 18, 3)) (by decide +kernel) (by decide +kernel) rfl h
theorem x_13_23 : Ev d 13 23 (.ref r :: L) st μ Q = Ev d 13 24 (.ref r :: L) (.ref r :: st) μ Q := e_aload_n (by decide +kernel : decode (bOf 13) 23 = .ok (.aload_n 0, 1)) rfl
theorem x_13_24 : Ev d 13 24 L st ((N, S, K), V, A, P) Q = Ev d 13 27 L (.ref N :: st) ((N + 1, S + 5, up1 K N (2, 5)), up1 V N (rw' [.int 0, .int 0, .int 0, .int 0, .int 0]), A, P) Q := e_new 5 [.int 0, .int 0, .int 0, .int 0, .int 0] (by decide +kernel : decode (bOf 13) 24 = .ok (.new 15, 3)) (by decide +kernel) (by decide +kernel) (by decide +kernel) (by decide +kernel)
theorem x_13_27 : Ev d 13 27 L (.ref r :: st) μ Q = Ev d 13 28 L (.ref r :: .ref r :: st) μ Q := e_dup_a (by decide +kernel : decode (bOf 13) 27 = .ok (.dup, 1))
theorem x_13_28 : Ev d 13 28 L [.ref r, s0, s1] μ Q = Call d 23 [.ref r] μ (fun v μ1 => Ev d 13 31 L (v.toList ++ [s0, s1]) μ1 Q) := e_callI (a := []) (r := [s0, s1]) (by decide +kernel : decode (bOf 13) 28 = .ok (.invokespecial 17, 3)) (by decide +kernel) (by decide +kernel) (by decide +kernel) (by decide +kernel) rfl (by simp)
theorem x_13_31 (h : kd t r = 1) : Ev d 13 31 L (.ref q :: .ref r :: st) (t, V, A, P) Q = Ev d 13 34 L st (t, up1 V r (up1 (V r) 2 (.ref q)), A, P) Q := e_putf (by decide +kernel : decode (bOf 13) 31 = .ok (.putfield 22, 3)) (by decide +kernel) (by decide +kernel) rfl h
theorem x_13_34 : Ev d 13 34 (.ref r :: L) st μ Q = Ev d 13 35 (.ref r :: L) (.ref r :: st) μ Q := e_aload_n (by decide +kernel : decode (bOf 13) 34 = .ok (.aload_n 0, 1)) rfl
theorem x_13_35 : Ev d 13 35 L st μ Q = Ev d 13 36 L (.int (iI 0) :: st) μ Q := e_iconst (by decide +kernel : decode (bOf 13) 35 = .ok (.iconst 0, 1))
theorem x_13_36 (h : kd t r = 1) : Ev d 13 36 L (.int x :: .ref r :: st) (t, V, A, P) Q = Ev d 13 39 L st (t, up1 V r (up1 (V r) 3 (.int x)), A, P) Q := e_putf (by decide +kernel : decode (bOf 13) 36 = .ok (.putfield 25, 3)) (by decide +kernel) (by decide +kernel) rfl h
theorem x_13_39 : Ev d 13 39 (.ref r :: L) st μ Q = Ev d 13 40 (.ref r :: L) (.ref r :: st) μ Q := e_aload_n (by decide +kernel : decode (bOf 13) 39 = .ok (.aload_n 0, 1)) rfl
theorem x_13_40 : Ev d 13 40 L st μ Q = Ev d 13 41 L (.int (iI (-1)) :: st) μ Q := e_iconst (by decide +kernel : decode (bOf 13) 40 = .ok (.iconst (-1), 1))
theorem x_13_41 (h : kd t r = 1) : Ev d 13 41 L (.int x :: .ref r :: st) (t, V, A, P) Q = Ev d 13 44 L st (t, up1 V r (up1 (V r) 4 (.int x)), A, P) Q := e_putf (by decide +kernel : decode (bOf 13) 41 = .ok (.putfield 29, 3)) (by decide +kernel) (by decide +kernel) rfl h
theorem x_13_44 : Ev d 13 44 (.ref r :: L) st μ Q = Ev d 13 45 (.ref r :: L) (.ref r :: st) μ Q := e_aload_n (by decide +kernel : decode (bOf 13) 44 = .ok (.aload_n 0, 1)) rfl
theorem x_13_45 : Ev d 13 45 L st μ Q = Ev d 13 46 L (.int (iI 0) :: st) μ Q := e_iconst (by decide +kernel : decode (bOf 13) 45 = .ok (.iconst 0, 1))
theorem x_13_46 (h : kd t r = 1) : Ev d 13 46 L (.int x :: .ref r :: st) (t, V, A, P) Q = Ev d 13 49 L st (t, up1 V r (up1 (V r) 5 (.int x)), A, P) Q := e_putf (by decide +kernel : decode (bOf 13) 46 = .ok (.putfield 32, 3)) (by decide +kernel) (by decide +kernel) rfl h
theorem x_13_49 : Ev d 13 49 (.ref r :: L) st μ Q = Ev d 13 50 (.ref r :: L) (.ref r :: st) μ Q := e_aload_n (by decide +kernel : decode (bOf 13) 49 = .ok (.aload_n 0, 1)) rfl
theorem x_13_50 : Ev d 13 50 L st μ Q = Ev d 13 52 L (.int (iI (-9)) :: st) μ Q := e_bipush (by decide +kernel : decode (bOf 13) 50 = .ok (.bipush (-9), 2)) (by decide +kernel)
theorem x_13_52 (h : kd t r = 1) : Ev d 13 52 L (.int x :: .ref r :: st) (t, V, A, P) Q = Ev d 13 55 L st (t, up1 V r (up1 (V r) 6 (.int x)), A, P) Q := e_putf (by decide +kernel : decode (bOf 13) 52 = .ok (.putfield 35, 3)) (by decide +kernel) (by decide +kernel) rfl h
theorem x_13_55 : Ev d 13 55 (.ref r :: L) st μ Q = Ev d 13 56 (.ref r :: L) (.ref r :: st) μ Q := e_aload_n (by decide +kernel : decode (bOf 13) 55 = .ok (.aload_n 0, 1)) rfl
theorem x_13_56 : Ev d 13 56 L st μ Q = Ev d 13 57 L (.int (iI 0) :: st) μ Q := e_iconst (by decide +kernel : decode (bOf 13) 56 = .ok (.iconst 0, 1))
theorem x_13_57 (h : kd t r = 1) : Ev d 13 57 L (.int x :: .ref r :: st) (t, V, A, P) Q = Ev d 13 60 L st (t, up1 V r (up1 (V r) 7 (.int x)), A, P) Q := e_putf (by decide +kernel : decode (bOf 13) 57 = .ok (.putfield 38, 3)) (by decide +kernel) (by decide +kernel) rfl h
theorem x_13_60 : Ev d 13 60 (.ref r :: L) st μ Q = Ev d 13 61 (.ref r :: L) (.ref r :: st) μ Q := e_aload_n (by decide +kernel : decode (bOf 13) 60 = .ok (.aload_n 0, 1)) rfl
theorem x_13_61 : Ev d 13 61 L st μ Q = Ev d 13 62 L (.int (iI 0) :: st) μ Q := e_iconst (by decide +kernel : decode (bOf 13) 61 = .ok (.iconst 0, 1))
theorem x_13_62 (h : kd t r = 1) : Ev d 13 62 L (.int x :: .ref r :: st) (t, V, A, P) Q = Ev d 13 65 L st (t, up1 V r (up1 (V r) 8 (.int x)), A, P) Q := e_putf (by decide +kernel : decode (bOf 13) 62 = .ok (.putfield 41, 3)) (by decide +kernel) (by decide +kernel) rfl h
theorem x_13_65 : Ev d 13 65 (.ref r :: L) st μ Q = Ev d 13 66 (.ref r :: L) (.ref r :: st) μ Q := e_aload_n (by decide +kernel : decode (bOf 13) 65 = .ok (.aload_n 0, 1)) rfl
theorem x_13_66 : Ev d 13 66 L st μ Q = Ev d 13 68 L (.int (iI (-9)) :: st) μ Q := e_bipush (by decide +kernel : decode (bOf 13) 66 = .ok (.bipush (-9), 2)) (by decide +kernel)
theorem x_13_68 (h : kd t r = 1) : Ev d 13 68 L (.int x :: .ref r :: st) (t, V, A, P) Q = Ev d 13 71 L st (t, up1 V r (up1 (V r) 9 (.int x)), A, P) Q := e_putf (by decide +kernel : decode (bOf 13) 68 = .ok (.putfield 44, 3)) (by decide +kernel) (by decide +kernel) rfl h
theorem x_13_71 : Ev d 13 71 L [] μ Q = Q none μ := e_ret (by decide +kernel : decode (bOf 13) 71 = .ok (.return_, 1)) (by decide +kernel)
theorem c_14 : Call (d + 1) 14 [a0, a1, a2, a3] μ Q = Ev d 14 0 [a0, a1, a2, a3, .null, .null, .null] [] μ Q := call_ev rfl
theorem x_14_0 : Ev d 14 0 (.ref r :: L) st μ Q = Ev d 14 1 (.ref r :: L) (.ref r :: st) μ Q := e_aload_n (by decide +kernel : decode (bOf 14) 0 = .ok (.aload_n 0, 1)) rfl
theorem x_14_1 : Ev d 14 1 (a0 :: a1 :: .int x :: L) st μ Q = Ev d 14 2 (a0 :: a1 :: .int x :: L) (.int x :: st) μ Q := e_iload_n (by decide +kernel : decode (bOf 14) 1 = .ok (.iload_n 2, 1)) rfl
theorem x_14_2 (h : kd t r = 1) : Ev d 14 2 L (.int x :: .ref r :: st) (t, V, A, P) Q = Ev d 14 5 L st (t, up1 V r (up1 (V r) 3 (.int x)), A, P) Q := e_putf (by decide +kernel : decode (bOf 14) 2 = .ok (.putfield 25, 3)) (by decide +kernel) (by decide +kernel) rfl h
theorem x_14_5 : Ev d 14 5 (.ref r :: L) st μ Q = Ev d 14 6 (.ref r :: L) (.ref r :: st) μ Q := e_aload_n (by decide +kernel : decode (bOf 14) 5 = .ok (.aload_n 0, 1)) rfl
theorem x_14_6 : Ev d 14 6 (a0 :: a1 :: a2 :: .int x :: L) st μ Q = Ev d 14 7 (a0 :: a1 :: a2 :: .int x :: L) (.int x :: st) μ Q := e_iload_n (by decide +kernel : decode (bOf 14) 6 = .ok (.iload_n 3, 1)) rfl
theorem x_14_7 (h : kd t r = 1) : Ev d 14 7 L (.int x :: .ref r :: st) (t, V, A, P) Q = Ev d 14 10 L st (t, up1 V r (up1 (V r) 4 (.int x)), A, P) Q := e_putf (by decide +kernel : decode (bOf 14) 7 = .ok (.putfield 29, 3)) (by decide +kernel) (by decide +kernel) rfl h
theorem x_14_10 : Ev d 14 10 (.ref r :: L) st μ Q = Ev d 14 11 (.ref r :: L) (.ref r :: st) μ Q := e_aload_n (by decide +kernel : decode (bOf 14) 10 = .ok (.aload_n 0, 1)) rfl
theorem x_14_11 : Ev d 14 11 L st μ Q = Ev d 14 12 L (.int (iI 0) :: st) μ Q := e_iconst (by decide +kernel : decode (bOf 14) 11 = .ok (.iconst 0, 1))
theorem x_14_12 (h : kd t r = 1) : Ev d 14 12 L (.int x :: .ref r :: st) (t, V, A, P) Q = Ev d 14 15 L st (t, up1 V r (up1 (V r) 5 (.int x)), A, P) Q := e_putf (by decide +kernel : decode (bOf 14) 12 = .ok (.putfield 32, 3)) (by decide +kernel) (by decide +kernel) rfl h
theorem x_14_15 : Ev d 14 15 (a0 :: a1 :: .int x :: L) st μ Q = Ev d 14 16 (a0 :: a1 :: .int x :: L) (.int x :: st) μ Q := e_iload_n (by decide +kernel : decode (bOf 14) 15 = .ok (.iload_n 2, 1)) rfl
theorem x_14_16 (h : a3.category = 1) : Ev d 14 16 (a0 :: a1 :: a2 :: a3 :: a4 :: L) (.int x :: st) μ Q = Ev d 14 18 (a0 :: a1 :: a2 :: a3 :: .int x :: L) st μ Q := e_istore (by decide +kernel : decode (bOf 14) 16 = .ok (.istore 4, 2)) (by simp [stOK, h])
theorem x_14_18 : Ev d 14 18 (a0 :: a1 :: a2 :: a3 :: .int x :: L) st μ Q = Ev d 14 20 (a0 :: a1 :: a2 :: a3 :: .int x :: L) (.int x :: st) μ Q := e_iload (by decide +kernel : decode (bOf 14) 18 = .ok (.iload 4, 2)) rfl
theorem x_14_20 : Ev d 14 20 L st μ Q = Ev d 14 22 L (.int (iI 6) :: st) μ Q := e_bipush (by decide +kernel : decode (bOf 14) 20 = .ok (.bipush 6, 2)) (by decide +kernel)
theorem x_14_22 : Ev d 14 22 L (.int y :: .int x :: st) μ Q = Ev d 14 23 L (.int (x + y) :: st) μ Q := e_iadd (by decide +kernel : decode (bOf 14) 22 = .ok (.iadd, 1))
theorem x_14_23 : Ev d 14 23 (a0 :: .ref r :: L) st μ Q = Ev d 14 24 (a0 :: .ref r :: L) (.ref r :: st) μ Q := e_aload_n (by decide +kernel : decode (bOf 14) 23 = .ok (.aload_n 1, 1)) rfl
theorem x_14_24 (h : kd t r = 3) : Ev d 14 24 L [.ref r, s0] (t, V, A, P) Q = Call d 35 [.ref r] (t, V, A, P) (fun v μ1 => Ev d 14 27 L (v.toList ++ [s0]) μ1 Q) := e_callV (a := []) (r := [s0]) (by decide +kernel : decode (bOf 14) 24 = .ok (.invokevirtual 47, 3)) (by decide +kernel) (by decide +kernel) (by decide +kernel) rfl (by simp) (by decide +kernel) h
theorem x_14_27 : Ev d 14 27 L (.int y :: .int x :: st) μ Q = if y < x then Ev d 14 101 L st μ Q else Ev d 14 30 L st μ Q := e_icmp_gt (by decide +kernel : decode (bOf 14) 27 = .ok (.if_icmp .gt 74, 3)) (by omega)
theorem x_14_30 : Ev d 14 30 (.ref r :: L) st μ Q = Ev d 14 31 (.ref r :: L) (.ref r :: st) μ Q := e_aload_n (by decide +kernel : decode (bOf 14) 30 = .ok (.aload_n 0, 1)) rfl
theorem x_14_31 (h : kd t r = 1) : Ev d 14 31 L (.ref r :: st) (t, V, A, P) Q = Ev d 14 34 L (V r 5 :: st) (t, V, A, P) Q := e_getf (by decide +kernel : decode (bOf 14) 31 = .ok (.getfield 32, 3)) (by decide +kernel) (by decide +kernel) h
theorem x_14_34 : Ev d 14 34 L st μ Q = Ev d 14 36 L (.int (iI 32) :: st) μ Q := e_bipush (by decide +kernel : decode (bOf 14) 34 = .ok (.bipush 32, 2)) (by decide +kernel)
theorem x_14_36 : Ev d 14 36 L (.int y :: .int x :: st) μ Q = if x < y then Ev d 14 39 L st μ Q else Ev d 14 101 L st μ Q := e_icmp_ge (by decide +kernel : decode (bOf 14) 36 = .ok (.if_icmp .ge 65, 3)) (by omega)
theorem x_14_39 : Ev d 14 39 L st μ Q = Ev d 14 40 L (.int (iI 0) :: st) μ Q := e_iconst (by decide +kernel : decode (bOf 14) 39 = .ok (.iconst 0, 1))
theorem x_14_40 (h : a4.category = 1) : Ev d 14 40 (a0 :: a1 :: a2 :: a3 :: a4 :: a5 :: L) (.int x :: st) μ Q = Ev d 14 42 (a0 :: a1 :: a2 :: a3 :: a4 :: .int x :: L) st μ Q := e_istore (by decide +kernel : decode (bOf 14) 40 = .ok (.istore 5, 2)) (by simp [stOK, h])
theorem x_14_42 : Ev d 14 42 L st μ Q = Ev d 14 43 L (.int (iI 0) :: st) μ Q := e_iconst (by decide +kernel : decode (bOf 14) 42 = .ok (.iconst 0, 1))
theorem x_14_43 (h : a5.category = 1) : Ev d 14 43 (a0 :: a1 :: a2 :: a3 :: a4 :: a5 :: a6 :: L) (.int x :: st) μ Q = Ev d 14 45 (a0 :: a1 :: a2 :: a3 :: a4 :: a5 :: .int x :: L) st μ Q := e_istore (by decide +kernel : decode (bOf 14) 43 = .ok (.istore 6, 2)) (by simp [stOK, h])
theorem x_14_45 : Ev d 14 45 (a0 :: a1 :: a2 :: a3 :: a4 :: a5 :: .int x :: L) st μ Q = Ev d 14 47 (a0 :: a1 :: a2 :: a3 :: a4 :: a5 :: .int x :: L) (.int x :: st) μ Q := e_iload (by decide +kernel : decode (bOf 14) 45 = .ok (.iload 6, 2)) rfl
theorem x_14_47 : Ev d 14 47 L st μ Q = Ev d 14 49 L (.int (iI 6) :: st) μ Q := e_bipush (by decide +kernel : decode (bOf 14) 47 = .ok (.bipush 6, 2)) (by decide +kernel)
theorem x_14_49 : Ev d 14 49 L (.int y :: .int x :: st) μ Q = if x < y then Ev d 14 52 L st μ Q else Ev d 14 74 L st μ Q := e_icmp_ge (by decide +kernel : decode (bOf 14) 49 = .ok (.if_icmp .ge 25, 3)) (by omega)
theorem x_14_52 : Ev d 14 52 L st μ Q = Ev d 14 53 L (.int (iI 2) :: st) μ Q := e_iconst (by decide +kernel : decode (bOf 14) 52 = .ok (.iconst 2, 1))
theorem x_14_53 : Ev d 14 53 (a0 :: a1 :: a2 :: a3 :: a4 :: .int x :: L) st μ Q = Ev d 14 55 (a0 :: a1 :: a2 :: a3 :: a4 :: .int x :: L) (.int x :: st) μ Q := e_iload (by decide +kernel : decode (bOf 14) 53 = .ok (.iload 5, 2)) rfl
theorem x_14_55 : Ev d 14 55 L (.int y :: .int x :: st) μ Q = Ev d 14 56 L (.int (x * y) :: st) μ Q := e_imul (by decide +kernel : decode (bOf 14) 55 = .ok (.imul, 1))
theorem x_14_56 : Ev d 14 56 (a0 :: .ref r :: L) st μ Q = Ev d 14 57 (a0 :: .ref r :: L) (.ref r :: st) μ Q := e_aload_n (by decide +kernel : decode (bOf 14) 56 = .ok (.aload_n 1, 1)) rfl
theorem x_14_57 : Ev d 14 57 (a0 :: a1 :: a2 :: a3 :: .int x :: L) st μ Q = Ev d 14 59 (a0 :: a1 :: a2 :: a3 :: .int x :: L) (.int x :: st) μ Q := e_iload (by decide +kernel : decode (bOf 14) 57 = .ok (.iload 4, 2)) rfl
theorem x_14_59 : Ev d 14 59 (a0 :: a1 :: a2 :: a3 :: a4 :: a5 :: .int x :: L) st μ Q = Ev d 14 61 (a0 :: a1 :: a2 :: a3 :: a4 :: a5 :: .int x :: L) (.int x :: st) μ Q := e_iload (by decide +kernel : decode (bOf 14) 59 = .ok (.iload 6, 2)) rfl
theorem x_14_61 : Ev d 14 61 L (.int y :: .int x :: st) μ Q = Ev d 14 62 L (.int (x + y) :: st) μ Q := e_iadd (by decide +kernel : decode (bOf 14) 61 = .ok (.iadd, 1))
theorem x_14_62 (h : kd t r = 3) : Ev d 14 62 L [b0, .ref r, s0] (t, V, A, P) Q = Call d 37 [.ref r, b0] (t, V, A, P) (fun v μ1 => Ev d 14 65 L (v.toList ++ [s0]) μ1 Q) := e_callV (a := [b0]) (r := [s0]) (by decide +kernel : decode (bOf 14) 62 = .ok (.invokevirtual 53, 3)) (by decide +kernel) (by decide +kernel) (by decide +kernel) rfl (by simp) (by decide +kernel) h
theorem x_14_65 : Ev d 14 65 L (.int y :: .int x :: st) μ Q = Ev d 14 66 L (.int (x + y) :: st) μ Q := e_iadd (by decide +kernel : decode (bOf 14) 65 = .ok (.iadd, 1))
theorem x_14_66 (h : a4.category = 1) : Ev d 14 66 (a0 :: a1 :: a2 :: a3 :: a4 :: a5 :: L) (.int x :: st) μ Q = Ev d 14 68 (a0 :: a1 :: a2 :: a3 :: a4 :: .int x :: L) st μ Q := e_istore (by decide +kernel : decode (bOf 14) 66 = .ok (.istore 5, 2)) (by simp [stOK, h])
theorem x_14_68 (h : a5.category = 1) : Ev d 14 68 (a0 :: a1 :: a2 :: a3 :: a4 :: a5 :: .int x :: L) st μ Q = Ev d 14 71 (a0 :: a1 :: a2 :: a3 :: a4 :: a5 :: .int (x + (iI 1)) :: L) st μ Q := e_iinc (by decide +kernel : decode (bOf 14) 68 = .ok (.iinc 6 1, 3)) rfl (by simp [stOK, h])
theorem x_14_71 : Ev d 14 71 L st μ Q = Ev d 14 45 L st μ Q := e_goto (by decide +kernel : decode (bOf 14) 71 = .ok (.goto (-26), 3)) (by omega)
theorem x_14_74 : Ev d 14 74 (.ref r :: L) st μ Q = Ev d 14 75 (.ref r :: L) (.ref r :: st) μ Q := e_aload_n (by decide +kernel : decode (bOf 14) 74 = .ok (.aload_n 0, 1)) rfl
theorem x_14_75 (h : kd t r = 1) : Ev d 14 75 L (.ref r :: st) (t, V, A, P) Q = Ev d 14 78 L (V r 0 :: st) (t, V, A, P) Q := e_getf (by decide +kernel : decode (bOf 14) 75 = .ok (.getfield 9, 3)) (by decide +kernel) (by decide +kernel) h
theorem x_14_78 : Ev d 14 78 (.ref r :: L) st μ Q = Ev d 14 79 (.ref r :: L) (.ref r :: st) μ Q := e_aload_n (by decide +kernel : decode (bOf 14) 78 = .ok (.aload_n 0, 1)) rfl
theorem x_14_79 (h : kd t r = 1) : Ev d 14 79 L (.ref r :: st) (t, V, A, P) Q = Ev d 14 82 L (V r 5 :: st) (t, V, A, P) Q := e_getf (by decide +kernel : decode (bOf 14) 79 = .ok (.getfield 32, 3)) (by decide +kernel) (by decide +kernel) h
theorem x_14_82 : Ev d 14 82 (a0 :: a1 :: a2 :: a3 :: a4 :: .int x :: L) st μ Q = Ev d 14 84 (a0 :: a1 :: a2 :: a3 :: a4 :: .int x :: L) (.int x :: st) μ Q := e_iload (by decide +kernel : decode (bOf 14) 82 = .ok (.iload 5, 2)) rfl
theorem x_14_84 (h : kd t r = 6) (hi : inB x (ln t r) = true) : Ev d 14 84 L (.int y :: .int x :: .ref r :: st) (t, V, A, P) Q = Ev d 14 85 L st (t, V, up1 A r (upd (A r) x.toNatClampNeg y), P) Q := e_iast (by decide +kernel : decode (bOf 14) 84 = .ok (.iastore, 1)) h hi
theorem x_14_85 : Ev d 14 85 (.ref r :: L) st μ Q = Ev d 14 86 (.ref r :: L) (.ref r :: st) μ Q := e_aload_n (by decide +kernel : decode (bOf 14) 85 = .ok (.aload_n 0, 1)) rfl
theorem x_14_86 : Ev d 14 86 L (.ref r :: st) μ Q = Ev d 14 87 L (.ref r :: .ref r :: st) μ Q := e_dup_a (by decide +kernel : decode (bOf 14) 86 = .ok (.dup, 1))
theorem x_14_87 (h : kd t r = 1) : Ev d 14 87 L (.ref r :: st) (t, V, A, P) Q = Ev d 14 90 L (V r 5 :: st) (t, V, A, P) Q := e_getf (by decide +kernel : decode (bOf 14) 87 = .ok (.getfield 32, 3)) (by decide +kernel) (by decide +kernel) h
theorem x_14_90 : Ev d 14 90 L st μ Q = Ev d 14 91 L (.int (iI 1) :: st) μ Q := e_iconst (by decide +kernel : decode (bOf 14) 90 = .ok (.iconst 1, 1))
theorem x_14_91 : Ev d 14 91 L (.int y :: .int x :: st) μ Q = Ev d 14 92 L (.int (x + y) :: st) μ Q := e_iadd (by decide +kernel : decode (bOf 14) 91 = .ok (.iadd, 1))
theorem x_14_92 (h : kd t r = 1) : Ev d 14 92 L (.int x :: .ref r :: st) (t, V, A, P) Q = Ev d 14 95 L st (t, up1 V r (up1 (V r) 5 (.int x)), A, P) Q := e_putf (by decide +kernel : decode (bOf 14) 92 = .ok (.putfield 32, 3)) (by decide +kernel) (by decide +kernel) rfl h
theorem x_14_95 (h : a3.category = 1) : Ev d 14 95 (a0 :: a1 :: a2 :: a3 :: .int x :: L) st μ Q = Ev d 14 98 (a0 :: a1 :: a2 :: a3 :: .int (x + (iI 6)) :: L) st μ Q := e_iinc (by decide +kernel : decode (bOf 14) 95 = .ok (.iinc 4 6, 3)) rfl (by simp [stOK, h])
theorem x_14_98 : Ev d 14 98 L st μ Q = Ev d 14 18 L st μ Q := e_goto (by decide +kernel : decode (bOf 14) 98 = .ok (.goto (-80), 3)) (by omega)
theorem x_14_101 : Ev d 14 101 L [] μ Q = Q none μ := e_ret (by decide +kernel : decode (bOf 14) 101 = .ok (.return_, 1)) (by decide +kernel)
theorem c_15 : Call (d + 1) 15 [a0, a1] μ Q = Ev d 15 0 [a0, a1] [] μ Q := call_ev rfl
theorem x_15_0 : Ev d 15 0 (a0 :: .int x :: L) st μ Q = Ev d 15 1 (a0 :: .int x :: L) (.int x :: st) μ Q := e_iload_n (by decide +kernel : decode (bOf 15) 0 = .ok (.iload_n 1, 1)) rfl
theorem x_15_1 : Ev d 15 1 L (.int x :: st) μ Q = if x < iI 0 then Ev d 15 27 L st μ Q else Ev d 15 4 L st μ Q := e_if_lt (by decide +kernel : decode (bOf 15) 1 = .ok (.ifCond .lt 26, 3)) (by omega)
theorem x_15_4 : Ev d 15 4 (a0 :: .int x :: L) st μ Q = Ev d 15 5 (a0 :: .int x :: L) (.int x :: st) μ Q := e_iload_n (by decide +kernel : decode (bOf 15) 4 = .ok (.iload_n 1, 1)) rfl
theorem x_15_5 : Ev d 15 5 (.ref r :: L) st μ Q = Ev d 15 6 (.ref r :: L) (.ref r :: st) μ Q := e_aload_n (by decide +kernel : decode (bOf 15) 5 = .ok (.aload_n 0, 1)) rfl
theorem x_15_6 (h : kd t r = 1) : Ev d 15 6 L (.ref r :: st) (t, V, A, P) Q = Ev d 15 9 L (V r 5 :: st) (t, V, A, P) Q := e_getf (by decide +kernel : decode (bOf 15) 6 = .ok (.getfield 32, 3)) (by decide +kernel) (by decide +kernel) h
theorem x_15_9 : Ev d 15 9 L (.int y :: .int x :: st) μ Q = if x < y then Ev d 15 12 L st μ Q else Ev d 15 27 L st μ Q := e_icmp_ge (by decide +kernel : decode (bOf 15) 9 = .ok (.if_icmp .ge 18, 3)) (by omega)
theorem x_15_12 : Ev d 15 12 (a0 :: .int x :: L) st μ Q = Ev d 15 13 (a0 :: .int x :: L) (.int x :: st) μ Q := e_iload_n (by decide +kernel : decode (bOf 15) 12 = .ok (.iload_n 1, 1)) rfl
theorem x_15_13 : Ev d 15 13 L st μ Q = Ev d 15 15 L (.int (iI 32) :: st) μ Q := e_bipush (by decide +kernel : decode (bOf 15) 13 = .ok (.bipush 32, 2)) (by decide +kernel)
theorem x_15_15 : Ev d 15 15 L (.int y :: .int x :: st) μ Q = if x < y then Ev d 15 18 L st μ Q else Ev d 15 27 L st μ Q := e_icmp_ge (by decide +kernel : decode (bOf 15) 15 = .ok (.if_icmp .ge 12, 3)) (by omega)
theorem x_15_18 : Ev d 15 18 (.ref r :: L) st μ Q = Ev d 15 19 (.ref r :: L) (.ref r :: st) μ Q := e_aload_n (by decide +kernel : decode (bOf 15) 18 = .ok (.aload_n 0, 1)) rfl
theorem x_15_19 (h : kd t r = 1) : Ev d 15 19 L (.ref r :: st) (t, V, A, P) Q = Ev d 15 22 L (V r 0 :: st) (t, V, A, P) Q := e_getf (by decide +kernel : decode (bOf 15) 19 = .ok (.getfield 9, 3)) (by decide +kernel) (by decide +kernel) h
theorem x_15_22 : Ev d 15 22 (a0 :: .int x :: L) st μ Q = Ev d 15 23 (a0 :: .int x :: L) (.int x :: st) μ Q := e_iload_n (by decide +kernel : decode (bOf 15) 22 = .ok (.iload_n 1, 1)) rfl
theorem x_15_23 (h : kd t r = 6) (hi : inB x (ln t r) = true) : Ev d 15 23 L (.int x :: .ref r :: st) (t, V, A, P) Q = Ev d 15 24 L (.int (A r x.toNatClampNeg) :: st) (t, V, A, P) Q := e_iald (by decide +kernel : decode (bOf 15) 23 = .ok (.iaload, 1)) h hi
theorem x_15_24 : Ev d 15 24 L st μ Q = Ev d 15 28 L st μ Q := e_goto (by decide +kernel : decode (bOf 15) 24 = .ok (.goto 4, 3)) (by omega)
theorem x_15_27 : Ev d 15 27 L st μ Q = Ev d 15 28 L (.int (iI 0) :: st) μ Q := e_iconst (by decide +kernel : decode (bOf 15) 27 = .ok (.iconst 0, 1))
theorem x_15_28 : Ev d 15 28 L [.int x] μ Q = Q (some (.int x)) μ := e_iret (by decide +kernel : decode (bOf 15) 28 = .ok (.ireturn, 1)) (by decide +kernel)
theorem c_16 : Call (d + 1) 16 [a0, a1] μ Q = Ev d 16 0 [a0, a1, .null, .null] [] μ Q := call_ev rfl
theorem x_16_0 : Ev d 16 0 (.ref r :: L) st μ Q = Ev d 16 1 (.ref r :: L) (.ref r :: st) μ Q := e_aload_n (by decide +kernel : decode (bOf 16) 0 = .ok (.aload_n 0, 1)) rfl
theorem x_16_1 (h : kd t r = 1) : Ev d 16 1 L (.ref r :: st) (t, V, A, P) Q = Ev d 16 4 L (V r 4 :: st) (t, V, A, P) Q := e_getf (by decide +kernel : decode (bOf 16) 1 = .ok (.getfield 29, 3)) (by decide +kernel) (by decide +kernel) h
theorem x_16_4 (h : a1.category = 1) : Ev d 16 4 (a0 :: a1 :: a2 :: L) (.int x :: st) μ Q = Ev d 16 5 (a0 :: a1 :: .int x :: L) st μ Q := e_istore_n (by decide +kernel : decode (bOf 16) 4 = .ok (.istore_n 2, 1)) (by simp [stOK, h])
theorem x_16_5 : Ev d 16 5 L st μ Q = Ev d 16 6 L (.int (iI 0) :: st) μ Q := e_iconst (by decide +kernel : decode (bOf 16) 5 = .ok (.iconst 0, 1))
theorem x_16_6 (h : a2.category = 1) : Ev d 16 6 (a0 :: a1 :: a2 :: a3 :: L) (.int x :: st) μ Q = Ev d 16 7 (a0 :: a1 :: a2 :: .int x :: L) st μ Q := e_istore_n (by decide +kernel : decode (bOf 16) 6 = .ok (.istore_n 3, 1)) (by simp [stOK, h])
theorem x_16_7 : Ev d 16 7 (a0 :: a1 :: a2 :: .int x :: L) st μ Q = Ev d 16 8 (a0 :: a1 :: a2 :: .int x :: L) (.int x :: st) μ Q := e_iload_n (by decide +kernel : decode (bOf 16) 7 = .ok (.iload_n 3, 1)) rfl
theorem x_16_8 : Ev d 16 8 (a0 :: .int x :: L) st μ Q = Ev d 16 9 (a0 :: .int x :: L) (.int x :: st) μ Q := e_iload_n (by decide +kernel : decode (bOf 16) 8 = .ok (.iload_n 1, 1)) rfl
theorem x_16_9 : Ev d 16 9 L (.int y :: .int x :: st) μ Q = if x < y then Ev d 16 12 L st μ Q else Ev d 16 36 L st μ Q := e_icmp_ge (by decide +kernel : decode (bOf 16) 9 = .ok (.if_icmp .ge 27, 3)) (by omega)
theorem x_16_12 : Ev d 16 12 (a0 :: a1 :: a2 :: .int x :: L) st μ Q = Ev d 16 13 (a0 :: a1 :: a2 :: .int x :: L) (.int x :: st) μ Q := e_iload_n (by decide +kernel : decode (bOf 16) 12 = .ok (.iload_n 3, 1)) rfl
theorem x_16_13 : Ev d 16 13 (.ref r :: L) st μ Q = Ev d 16 14 (.ref r :: L) (.ref r :: st) μ Q := e_aload_n (by decide +kernel : decode (bOf 16) 13 = .ok (.aload_n 0, 1)) rfl
theorem x_16_14 (h : kd t r = 1) : Ev d 16 14 L (.ref r :: st) (t, V, A, P) Q = Ev d 16 17 L (V r 5 :: st) (t, V, A, P) Q := e_getf (by decide +kernel : decode (bOf 16) 14 = .ok (.getfield 32, 3)) (by decide +kernel) (by decide +kernel) h
theorem x_16_17 : Ev d 16 17 L (.int y :: .int x :: st) μ Q = if x < y then Ev d 16 20 L st μ Q else Ev d 16 36 L st μ Q := e_icmp_ge (by decide +kernel : decode (bOf 16) 17 = .ok (.if_icmp .ge 19, 3)) (by omega)
theorem x_16_20 : Ev d 16 20 (.ref r :: L) st μ Q = Ev d 16 21 (.ref r :: L) (.ref r :: st) μ Q := e_aload_n (by decide +kernel : decode (bOf 16) 20 = .ok (.aload_n 0, 1)) rfl
theorem x_16_21 : Ev d 16 21 (a0 :: a1 :: a2 :: .int x :: L) st μ Q = Ev d 16 22 (a0 :: a1 :: a2 :: .int x :: L) (.int x :: st) μ Q := e_iload_n (by decide +kernel : decode (bOf 16) 21 = .ok (.iload_n 3, 1)) rfl
theorem x_16_22 (h : kd t r = 1) : Ev d 16 22 L [b0, .ref r] (t, V, A, P) Q = Call d 15 [.ref r, b0] (t, V, A, P) (fun v μ1 => Ev d 16 25 L (v.toList ++ []) μ1 Q) := e_callV (a := [b0]) (r := []) (by decide +kernel : decode (bOf 16) 22 = .ok (.invokevirtual 57, 3)) (by decide +kernel) (by decide +kernel) (by decide +kernel) rfl (by simp) (by decide +kernel) h
theorem x_16_25 : Ev d 16 25 (a0 :: a1 :: .int x :: L) st μ Q = Ev d 16 26 (a0 :: a1 :: .int x :: L) (.int x :: st) μ Q := e_iload_n (by decide +kernel : decode (bOf 16) 25 = .ok (.iload_n 2, 1)) rfl
theorem x_16_26 : Ev d 16 26 L [b1, b0] μ Q = Call d 6 [b0, b1] μ (fun v μ1 => Ev d 16 29 L (v.toList ++ []) μ1 Q) := e_callS (a := [b0, b1]) (r := []) (by decide +kernel : decode (bOf 16) 26 = .ok (.invokestatic 60, 3)) (by decide +kernel) (by decide +kernel) rfl (by simp)
theorem x_16_29 (h : a1.category = 1) : Ev d 16 29 (a0 :: a1 :: a2 :: L) (.int x :: st) μ Q = Ev d 16 30 (a0 :: a1 :: .int x :: L) st μ Q := e_istore_n (by decide +kernel : decode (bOf 16) 29 = .ok (.istore_n 2, 1)) (by simp [stOK, h])
theorem x_16_30 (h : a2.category = 1) : Ev d 16 30 (a0 :: a1 :: a2 :: .int x :: L) st μ Q = Ev d 16 33 (a0 :: a1 :: a2 :: .int (x + (iI 1)) :: L) st μ Q := e_iinc (by decide +kernel : decode (bOf 16) 30 = .ok (.iinc 3 1, 3)) rfl (by simp [stOK, h])
theorem x_16_33 : Ev d 16 33 L st μ Q = Ev d 16 7 L st μ Q := e_goto (by decide +kernel : decode (bOf 16) 33 = .ok (.goto (-26), 3)) (by omega)
theorem x_16_36 : Ev d 16 36 (a0 :: a1 :: .int x :: L) st μ Q = Ev d 16 37 (a0 :: a1 :: .int x :: L) (.int x :: st) μ Q := e_iload_n (by decide +kernel : decode (bOf 16) 36 = .ok (.iload_n 2, 1)) rfl
theorem x_16_37 : Ev d 16 37 L [.int x] μ Q = Q (some (.int x)) μ := e_iret (by decide +kernel : decode (bOf 16) 37 = .ok (.ireturn, 1)) (by decide +kernel)
theorem c_17 : Call (d + 1) 17 [a0, a1] μ Q = Ev d 17 0 [a0, a1] [] μ Q := call_ev rfl
theorem x_17_0 : Ev d 17 0 (.ref r :: L) st μ Q = Ev d 17 1 (.ref r :: L) (.ref r :: st) μ Q := e_aload_n (by decide +kernel : decode (bOf 17) 0 = .ok (.aload_n 0, 1)) rfl
theorem x_17_1 : Ev d 17 1 (a0 :: .int x :: L) st μ Q = Ev d 17 2 (a0 :: .int x :: L) (.int x :: st) μ Q := e_iload_n (by decide +kernel : decode (bOf 17) 1 = .ok (.iload_n 1, 1)) rfl
theorem x_17_2 (h : kd t r = 1) : Ev d 17 2 L [b0, .ref r] (t, V, A, P) Q = Call d 15 [.ref r, b0] (t, V, A, P) (fun v μ1 => Ev d 17 5 L (v.toList ++ []) μ1 Q) := e_callV (a := [b0]) (r := []) (by decide +kernel : decode (bOf 17) 2 = .ok (.invokevirtual 57, 3)) (by decide +kernel) (by decide +kernel) (by decide +kernel) rfl (by simp) (by decide +kernel) h
theorem x_17_5 : Ev d 17 5 (.ref r :: L) st μ Q = Ev d 17 6 (.ref r :: L) (.ref r :: st) μ Q := e_aload_n (by decide +kernel : decode (bOf 17) 5 = .ok (.aload_n 0, 1)) rfl
theorem x_17_6 : Ev d 17 6 (a0 :: .int x :: L) st μ Q = Ev d 17 7 (a0 :: .int x :: L) (.int x :: st) μ Q := e_iload_n (by decide +kernel : decode (bOf 17) 6 = .ok (.iload_n 1, 1)) rfl
theorem x_17_7 (h : kd t r = 1) : Ev d 17 7 L [b0, .ref r, s0] (t, V, A, P) Q = Call d 16 [.ref r, b0] (t, V, A, P) (fun v μ1 => Ev d 17 10 L (v.toList ++ [s0]) μ1 Q) := e_callV (a := [b0]) (r := [s0]) (by decide +kernel : decode (bOf 17) 7 = .ok (.invokevirtual 66, 3)) (by decide +kernel) (by decide +kernel) (by decide +kernel) rfl (by simp) (by decide +kernel) h
theorem x_17_10 : Ev d 17 10 L [b1, b0] μ Q = Call d 6 [b0, b1] μ (fun v μ1 => Ev d 17 13 L (v.toList ++ []) μ1 Q) := e_callS (a := [b0, b1]) (r := []) (by decide +kernel : decode (bOf 17) 10 = .ok (.invokestatic 60, 3)) (by decide +kernel) (by decide +kernel) rfl (by simp)
theorem x_17_13 : Ev d 17 13 L [.int x] μ Q = Q (some (.int x)) μ := e_iret (by decide +kernel : decode (bOf 17) 13 = .ok (.ireturn, 1)) (by decide +kernel)
theorem c_18 : Call (d + 1) 18 [a0, a1] μ Q = Ev d 18 0 [a0, a1, .null, .null] [] μ Q := call_ev rfl
theorem x_18_0 : Ev d 18 0 L st μ Q = Ev d 18 1 L (.int (iI 0) :: st) μ Q := e_iconst (by decide +kernel : decode (bOf 18) 0 = .ok (.iconst 0, 1))
theorem x_18_1 (h : a1.category = 1) : Ev d 18 1 (a0 :: a1 :: a2 :: L) (.int x :: st) μ Q = Ev d 18 2 (a0 :: a1 :: .int x :: L) st μ Q := e_istore_n (by decide +kernel : decode (bOf 18) 1 = .ok (.istore_n 2, 1)) (by simp [stOK, h])
theorem x_18_2 : Ev d 18 2 (.ref r :: L) st μ Q = Ev d 18 3 (.ref r :: L) (.ref r :: st) μ Q := e_aload_n (by decide +kernel : decode (bOf 18) 2 = .ok (.aload_n 0, 1)) rfl
theorem x_18_3 (h : kd t r = 1) : Ev d 18 3 L (.ref r :: st) (t, V, A, P) Q = Ev d 18 6 L (V r 1 :: st) (t, V, A, P) Q := e_getf (by decide +kernel : decode (bOf 18) 3 = .ok (.getfield 18, 3)) (by decide +kernel) (by decide +kernel) h
theorem x_18_6 : Ev d 18 6 (.ref r :: L) st μ Q = Ev d 18 7 (.ref r :: L) (.ref r :: st) μ Q := e_aload_n (by decide +kernel : decode (bOf 18) 6 = .ok (.aload_n 0, 1)) rfl
theorem x_18_7 (h : kd t r = 1) : Ev d 18 7 L (.ref r :: st) (t, V, A, P) Q = Ev d 18 10 L (V r 4 :: st) (t, V, A, P) Q := e_getf (by decide +kernel : decode (bOf 18) 7 = .ok (.getfield 29, 3)) (by decide +kernel) (by decide +kernel) h
theorem x_18_10 (h : kd t r = 2) : Ev d 18 10 L [b0, .ref r] (t, V, A, P) Q = Call d 24 [.ref r, b0] (t, V, A, P) (fun v μ1 => Ev d 18 13 L (v.toList ++ []) μ1 Q) := e_callV (a := [b0]) (r := []) (by decide +kernel : decode (bOf 18) 10 = .ok (.invokevirtual 69, 3)) (by decide +kernel) (by decide +kernel) (by decide +kernel) rfl (by simp) (by decide +kernel) h
theorem x_18_13 : Ev d 18 13 L st μ Q = Ev d 18 14 L (.int (iI 0) :: st) μ Q := e_iconst (by decide +kernel : decode (bOf 18) 13 = .ok (.iconst 0, 1))
theorem x_18_14 (h : a2.category = 1) : Ev d 18 14 (a0 :: a1 :: a2 :: a3 :: L) (.int x :: st) μ Q = Ev d 18 15 (a0 :: a1 :: a2 :: .int x :: L) st μ Q := e_istore_n (by decide +kernel : decode (bOf 18) 14 = .ok (.istore_n 3, 1)) (by simp [stOK, h])
theorem x_18_15 : Ev d 18 15 (a0 :: a1 :: a2 :: .int x :: L) st μ Q = Ev d 18 16 (a0 :: a1 :: a2 :: .int x :: L) (.int x :: st) μ Q := e_iload_n (by decide +kernel : decode (bOf 18) 15 = .ok (.iload_n 3, 1)) rfl
theorem x_18_16 : Ev d 18 16 (a0 :: .int x :: L) st μ Q = Ev d 18 17 (a0 :: .int x :: L) (.int x :: st) μ Q := e_iload_n (by decide +kernel : decode (bOf 18) 16 = .ok (.iload_n 1, 1)) rfl
theorem x_18_17 : Ev d 18 17 L (.int y :: .int x :: st) μ Q = if y < x then Ev d 18 47 L st μ Q else Ev d 18 20 L st μ Q := e_icmp_gt (by decide +kernel : decode (bOf 18) 17 = .ok (.if_icmp .gt 30, 3)) (by omega)
theorem x_18_20 : Ev d 18 20 (a0 :: a1 :: a2 :: .int x :: L) st μ Q = Ev d 18 21 (a0 :: a1 :: a2 :: .int x :: L) (.int x :: st) μ Q := e_iload_n (by decide +kernel : decode (bOf 18) 20 = .ok (.iload_n 3, 1)) rfl
theorem x_18_21 : Ev d 18 21 (.ref r :: L) st μ Q = Ev d 18 22 (.ref r :: L) (.ref r :: st) μ Q := e_aload_n (by decide +kernel : decode (bOf 18) 21 = .ok (.aload_n 0, 1)) rfl
theorem x_18_22 (h : kd t r = 1) : Ev d 18 22 L (.ref r :: st) (t, V, A, P) Q = Ev d 18 25 L (V r 5 :: st) (t, V, A, P) Q := e_getf (by decide +kernel : decode (bOf 18) 22 = .ok (.getfield 32, 3)) (by decide +kernel) (by decide +kernel) h
theorem x_18_25 : Ev d 18 25 L (.int y :: .int x :: st) μ Q = if x < y then Ev d 18 28 L st μ Q else Ev d 18 47 L st μ Q := e_icmp_ge (by decide +kernel : decode (bOf 18) 25 = .ok (.if_icmp .ge 22, 3)) (by omega)
theorem x_18_28 : Ev d 18 28 (.ref r :: L) st μ Q = Ev d 18 29 (.ref r :: L) (.ref r :: st) μ Q := e_aload_n (by decide +kernel : decode (bOf 18) 28 = .ok (.aload_n 0, 1)) rfl
theorem x_18_29 (h : kd t r = 1) : Ev d 18 29 L (.ref r :: st) (t, V, A, P) Q = Ev d 18 32 L (V r 1 :: st) (t, V, A, P) Q := e_getf (by decide +kernel : decode (bOf 18) 29 = .ok (.getfield 18, 3)) (by decide +kernel) (by decide +kernel) h
theorem x_18_32 : Ev d 18 32 (.ref r :: L) st μ Q = Ev d 18 33 (.ref r :: L) (.ref r :: st) μ Q := e_aload_n (by decide +kernel : decode (bOf 18) 32 = .ok (.aload_n 0, 1)) rfl
theorem x_18_33 : Ev d 18 33 (a0 :: a1 :: a2 :: .int x :: L) st μ Q = Ev d 18 34 (a0 :: a1 :: a2 :: .int x :: L) (.int x :: st) μ Q := e_iload_n (by decide +kernel : decode (bOf 18) 33 = .ok (.iload_n 3, 1)) rfl
theorem x_18_34 (h : kd t r = 1) : Ev d 18 34 L [b0, .ref r, s0] (t, V, A, P) Q = Call d 15 [.ref r, b0] (t, V, A, P) (fun v μ1 => Ev d 18 37 L (v.toList ++ [s0]) μ1 Q) := e_callV (a := [b0]) (r := [s0]) (by decide +kernel : decode (bOf 18) 34 = .ok (.invokevirtual 57, 3)) (by decide +kernel) (by decide +kernel) (by decide +kernel) rfl (by simp) (by decide +kernel) h
theorem x_18_37 (h : kd t r = 2) : Ev d 18 37 L [b0, .ref r] (t, V, A, P) Q = Call d 27 [.ref r, b0] (t, V, A, P) (fun v μ1 => Ev d 18 40 L (v.toList ++ []) μ1 Q) := e_callV (a := [b0]) (r := []) (by decide +kernel : decode (bOf 18) 37 = .ok (.invokevirtual 73, 3)) (by decide +kernel) (by decide +kernel) (by decide +kernel) rfl (by simp) (by decide +kernel) h
theorem x_18_40 (h : a1.category = 1) : Ev d 18 40 (a0 :: a1 :: a2 :: L) (.int x :: st) μ Q = Ev d 18 41 (a0 :: a1 :: .int x :: L) st μ Q := e_istore_n (by decide +kernel : decode (bOf 18) 40 = .ok (.istore_n 2, 1)) (by simp [stOK, h])
theorem x_18_41 (h : a2.category = 1) : Ev d 18 41 (a0 :: a1 :: a2 :: .int x :: L) st μ Q = Ev d 18 44 (a0 :: a1 :: a2 :: .int (x + (iI 1)) :: L) st μ Q := e_iinc (by decide +kernel : decode (bOf 18) 41 = .ok (.iinc 3 1, 3)) rfl (by simp [stOK, h])
theorem x_18_44 : Ev d 18 44 L st μ Q = Ev d 18 15 L st μ Q := e_goto (by decide +kernel : decode (bOf 18) 44 = .ok (.goto (-29), 3)) (by omega)
theorem x_18_47 : Ev d 18 47 (a0 :: a1 :: .int x :: L) st μ Q = Ev d 18 48 (a0 :: a1 :: .int x :: L) (.int x :: st) μ Q := e_iload_n (by decide +kernel : decode (bOf 18) 47 = .ok (.iload_n 2, 1)) rfl
theorem x_18_48 : Ev d 18 48 L [.int x] μ Q = Q (some (.int x)) μ := e_iret (by decide +kernel : decode (bOf 18) 48 = .ok (.ireturn, 1)) (by decide +kernel)
theorem c_19 : Call (d + 1) 19 [a0] μ Q = Ev d 19 0 [a0, .null] [] μ Q := call_ev rfl
theorem x_19_0 : Ev d 19 0 (.ref r :: L) st μ Q = Ev d 19 1 (.ref r :: L) (.ref r :: st) μ Q := e_aload_n (by decide +kernel : decode (bOf 19) 0 = .ok (.aload_n 0, 1)) rfl
theorem x_19_1 : Ev d 19 1 L st μ Q = Ev d 19 3 L (.int (iI (-9)) :: st) μ Q := e_bipush (by decide +kernel : decode (bOf 19) 1 = .ok (.bipush (-9), 2)) (by decide +kernel)
theorem x_19_3 (h : kd t r = 1) : Ev d 19 3 L (.int x :: .ref r :: st) (t, V, A, P) Q = Ev d 19 6 L st (t, up1 V r (up1 (V r) 6 (.int x)), A, P) Q := e_putf (by decide +kernel : decode (bOf 19) 3 = .ok (.putfield 35, 3)) (by decide +kernel) (by decide +kernel) rfl h
theorem x_19_6 : Ev d 19 6 (.ref r :: L) st μ Q = Ev d 19 7 (.ref r :: L) (.ref r :: st) μ Q := e_aload_n (by decide +kernel : decode (bOf 19) 6 = .ok (.aload_n 0, 1)) rfl
theorem x_19_7 : Ev d 19 7 L st μ Q = Ev d 19 8 L (.int (iI 0) :: st) μ Q := e_iconst (by decide +kernel : decode (bOf 19) 7 = .ok (.iconst 0, 1))
theorem x_19_8 (h : kd t r = 1) : Ev d 19 8 L (.int x :: .ref r :: st) (t, V, A, P) Q = Ev d 19 11 L st (t, up1 V r (up1 (V r) 7 (.int x)), A, P) Q := e_putf (by decide +kernel : decode (bOf 19) 8 = .ok (.putfield 38, 3)) (by decide +kernel) (by decide +kernel) rfl h
theorem x_19_11 : Ev d 19 11 (.ref r :: L) st μ Q = Ev d 19 12 (.ref r :: L) (.ref r :: st) μ Q := e_aload_n (by decide +kernel : decode (bOf 19) 11 = .ok (.aload_n 0, 1)) rfl
theorem x_19_12 (h : kd t r = 1) : Ev d 19 12 L (.ref r :: st) (t, V, A, P) Q = Ev d 19 15 L (V r 1 :: st) (t, V, A, P) Q := e_getf (by decide +kernel : decode (bOf 19) 12 = .ok (.getfield 18, 3)) (by decide +kernel) (by decide +kernel) h
theorem x_19_15 : Ev d 19 15 (.ref r :: L) st μ Q = Ev d 19 16 (.ref r :: L) (.ref r :: st) μ Q := e_aload_n (by decide +kernel : decode (bOf 19) 15 = .ok (.aload_n 0, 1)) rfl
theorem x_19_16 (h : kd t r = 1) : Ev d 19 16 L (.ref r :: st) (t, V, A, P) Q = Ev d 19 19 L (V r 4 :: st) (t, V, A, P) Q := e_getf (by decide +kernel : decode (bOf 19) 16 = .ok (.getfield 29, 3)) (by decide +kernel) (by decide +kernel) h
theorem x_19_19 (h : kd t r = 2) : Ev d 19 19 L [b0, .ref r] (t, V, A, P) Q = Call d 24 [.ref r, b0] (t, V, A, P) (fun v μ1 => Ev d 19 22 L (v.toList ++ []) μ1 Q) := e_callV (a := [b0]) (r := []) (by decide +kernel : decode (bOf 19) 19 = .ok (.invokevirtual 69, 3)) (by decide +kernel) (by decide +kernel) (by decide +kernel) rfl (by simp) (by decide +kernel) h
theorem x_19_22 : Ev d 19 22 L st μ Q = Ev d 19 23 L (.int (iI 0) :: st) μ Q := e_iconst (by decide +kernel : decode (bOf 19) 22 = .ok (.iconst 0, 1))
theorem x_19_23 (h : a0.category = 1) : Ev d 19 23 (a0 :: a1 :: L) (.int x :: st) μ Q = Ev d 19 24 (a0 :: .int x :: L) st μ Q := e_istore_n (by decide +kernel : decode (bOf 19) 23 = .ok (.istore_n 1, 1)) (by simp [stOK, h])
theorem x_19_24 : Ev d 19 24 (a0 :: .int x :: L) st μ Q = Ev d 19 25 (a0 :: .int x :: L) (.int x :: st) μ Q := e_iload_n (by decide +kernel : decode (bOf 19) 24 = .ok (.iload_n 1, 1)) rfl
theorem x_19_25 : Ev d 19 25 (.ref r :: L) st μ Q = Ev d 19 26 (.ref r :: L) (.ref r :: st) μ Q := e_aload_n (by decide +kernel : decode (bOf 19) 25 = .ok (.aload_n 0, 1)) rfl
theorem x_19_26 (h : kd t r = 1) : Ev d 19 26 L (.ref r :: st) (t, V, A, P) Q = Ev d 19 29 L (V r 5 :: st) (t, V, A, P) Q := e_getf (by decide +kernel : decode (bOf 19) 26 = .ok (.getfield 32, 3)) (by decide +kernel) (by decide +kernel) h
theorem x_19_29 : Ev d 19 29 L (.int y :: .int x :: st) μ Q = if x < y then Ev d 19 32 L st μ Q else Ev d 19 77 L st μ Q := e_icmp_ge (by decide +kernel : decode (bOf 19) 29 = .ok (.if_icmp .ge 48, 3)) (by omega)
theorem x_19_32 : Ev d 19 32 (.ref r :: L) st μ Q = Ev d 19 33 (.ref r :: L) (.ref r :: st) μ Q := e_aload_n (by decide +kernel : decode (bOf 19) 32 = .ok (.aload_n 0, 1)) rfl
theorem x_19_33 (h : kd t r = 1) : Ev d 19 33 L (.ref r :: st) (t, V, A, P) Q = Ev d 19 36 L (V r 1 :: st) (t, V, A, P) Q := e_getf (by decide +kernel : decode (bOf 19) 33 = .ok (.getfield 18, 3)) (by decide +kernel) (by decide +kernel) h
theorem x_19_36 : Ev d 19 36 (.ref r :: L) st μ Q = Ev d 19 37 (.ref r :: L) (.ref r :: st) μ Q := e_aload_n (by decide +kernel : decode (bOf 19) 36 = .ok (.aload_n 0, 1)) rfl
theorem x_19_37 : Ev d 19 37 (a0 :: .int x :: L) st μ Q = Ev d 19 38 (a0 :: .int x :: L) (.int x :: st) μ Q := e_iload_n (by decide +kernel : decode (bOf 19) 37 = .ok (.iload_n 1, 1)) rfl
theorem x_19_38 (h : kd t r = 1) : Ev d 19 38 L [b0, .ref r, s0] (t, V, A, P) Q = Call d 15 [.ref r, b0] (t, V, A, P) (fun v μ1 => Ev d 19 41 L (v.toList ++ [s0]) μ1 Q) := e_callV (a := [b0]) (r := [s0]) (by decide +kernel : decode (bOf 19) 38 = .ok (.invokevirtual 57, 3)) (by decide +kernel) (by decide +kernel) (by decide +kernel) rfl (by simp) (by decide +kernel) h
theorem x_19_41 (h : kd t r = 2) : Ev d 19 41 L [b0, .ref r] (t, V, A, P) Q = Call d 27 [.ref r, b0] (t, V, A, P) (fun v μ1 => Ev d 19 44 L (v.toList ++ []) μ1 Q) := e_callV (a := [b0]) (r := []) (by decide +kernel : decode (bOf 19) 41 = .ok (.invokevirtual 73, 3)) (by decide +kernel) (by decide +kernel) (by decide +kernel) rfl (by simp) (by decide +kernel) h
theorem x_19_44 : Ev d 19 44 L (.int x :: st) μ Q = if x = iI 0 then Ev d 19 71 L st μ Q else Ev d 19 47 L st μ Q := e_if_eq (by decide +kernel : decode (bOf 19) 44 = .ok (.ifCond .eq 27, 3)) (by omega)
theorem x_19_47 : Ev d 19 47 (.ref r :: L) st μ Q = Ev d 19 48 (.ref r :: L) (.ref r :: st) μ Q := e_aload_n (by decide +kernel : decode (bOf 19) 47 = .ok (.aload_n 0, 1)) rfl
theorem x_19_48 : Ev d 19 48 L (.ref r :: st) μ Q = Ev d 19 49 L (.ref r :: .ref r :: st) μ Q := e_dup_a (by decide +kernel : decode (bOf 19) 48 = .ok (.dup, 1))
theorem x_19_49 (h : kd t r = 1) : Ev d 19 49 L (.ref r :: st) (t, V, A, P) Q = Ev d 19 52 L (V r 7 :: st) (t, V, A, P) Q := e_getf (by decide +kernel : decode (bOf 19) 49 = .ok (.getfield 38, 3)) (by decide +kernel) (by decide +kernel) h
theorem x_19_52 : Ev d 19 52 L st μ Q = Ev d 19 53 L (.int (iI 1) :: st) μ Q := e_iconst (by decide +kernel : decode (bOf 19) 52 = .ok (.iconst 1, 1))
theorem x_19_53 : Ev d 19 53 L (.int y :: .int x :: st) μ Q = Ev d 19 54 L (.int (x + y) :: st) μ Q := e_iadd (by decide +kernel : decode (bOf 19) 53 = .ok (.iadd, 1))
theorem x_19_54 (h : kd t r = 1) : Ev d 19 54 L (.int x :: .ref r :: st) (t, V, A, P) Q = Ev d 19 57 L st (t, up1 V r (up1 (V r) 7 (.int x)), A, P) Q := e_putf (by decide +kernel : decode (bOf 19) 54 = .ok (.putfield 38, 3)) (by decide +kernel) (by decide +kernel) rfl h
theorem x_19_57 : Ev d 19 57 (.ref r :: L) st μ Q = Ev d 19 58 (.ref r :: L) (.ref r :: st) μ Q := e_aload_n (by decide +kernel : decode (bOf 19) 57 = .ok (.aload_n 0, 1)) rfl
theorem x_19_58 (h : kd t r = 1) : Ev d 19 58 L (.ref r :: st) (t, V, A, P) Q = Ev d 19 61 L (V r 6 :: st) (t, V, A, P) Q := e_getf (by decide +kernel : decode (bOf 19) 58 = .ok (.getfield 35, 3)) (by decide +kernel) (by decide +kernel) h
theorem x_19_61 : Ev d 19 61 L st μ Q = Ev d 19 63 L (.int (iI (-9)) :: st) μ Q := e_bipush (by decide +kernel : decode (bOf 19) 61 = .ok (.bipush (-9), 2)) (by decide +kernel)
theorem x_19_63 : Ev d 19 63 L (.int y :: .int x :: st) μ Q = if x = y then Ev d 19 66 L st μ Q else Ev d 19 71 L st μ Q := e_icmp_ne (by decide +kernel : decode (bOf 19) 63 = .ok (.if_icmp .ne 8, 3)) (by omega)
theorem x_19_66 : Ev d 19 66 (.ref r :: L) st μ Q = Ev d 19 67 (.ref r :: L) (.ref r :: st) μ Q := e_aload_n (by decide +kernel : decode (bOf 19) 66 = .ok (.aload_n 0, 1)) rfl
theorem x_19_67 : Ev d 19 67 (a0 :: .int x :: L) st μ Q = Ev d 19 68 (a0 :: .int x :: L) (.int x :: st) μ Q := e_iload_n (by decide +kernel : decode (bOf 19) 67 = .ok (.iload_n 1, 1)) rfl
theorem x_19_68 (h : kd t r = 1) : Ev d 19 68 L (.int x :: .ref r :: st) (t, V, A, P) Q = Ev d 19 71 L st (t, up1 V r (up1 (V r) 6 (.int x)), A, P) Q := e_putf (by decide +kernel : decode (bOf 19) 68 = .ok (.putfield 35, 3)) (by decide +kernel) (by decide +kernel) rfl h
theorem x_19_71 (h : a0.category = 1) : Ev d 19 71 (a0 :: .int x :: L) st μ Q = Ev d 19 74 (a0 :: .int (x + (iI 1)) :: L) st μ Q := e_iinc (by decide +kernel : decode (bOf 19) 71 = .ok (.iinc 1 1, 3)) rfl (by simp [stOK, h])
theorem x_19_74 : Ev d 19 74 L st μ Q = Ev d 19 24 L st μ Q := e_goto (by decide +kernel : decode (bOf 19) 74 = .ok (.goto (-50), 3)) (by omega)
theorem x_19_77 : Ev d 19 77 L [] μ Q = Q none μ := e_ret (by decide +kernel : decode (bOf 19) 77 = .ok (.return_, 1)) (by decide +kernel)
theorem c_20 : Call (d + 1) 20 [a0] μ Q = Ev d 20 0 [a0, .null, .null, .null] [] μ Q := call_ev rfl
theorem x_20_0 : Ev d 20 0 (.ref r :: L) st μ Q = Ev d 20 1 (.ref r :: L) (.ref r :: st) μ Q := e_aload_n (by decide +kernel : decode (bOf 20) 0 = .ok (.aload_n 0, 1)) rfl
theorem x_20_1 (h : kd t r = 1) : Ev d 20 1 L (.ref r :: st) (t, V, A, P) Q = Ev d 20 4 L (V r 6 :: st) (t, V, A, P) Q := e_getf (by decide +kernel : decode (bOf 20) 1 = .ok (.getfield 35, 3)) (by decide +kernel) (by decide +kernel) h
theorem x_20_4 : Ev d 20 4 L st μ Q = Ev d 20 6 L (.int (iI (-9)) :: st) μ Q := e_bipush (by decide +kernel : decode (bOf 20) 4 = .ok (.bipush (-9), 2)) (by decide +kernel)
theorem x_20_6 : Ev d 20 6 L (.int y :: .int x :: st) μ Q = if x = y then Ev d 20 9 L st μ Q else Ev d 20 16 L st μ Q := e_icmp_ne (by decide +kernel : decode (bOf 20) 6 = .ok (.if_icmp .ne 10, 3)) (by omega)
theorem x_20_9 : Ev d 20 9 (.ref r :: L) st μ Q = Ev d 20 10 (.ref r :: L) (.ref r :: st) μ Q := e_aload_n (by decide +kernel : decode (bOf 20) 9 = .ok (.aload_n 0, 1)) rfl
theorem x_20_10 (h : kd t r = 1) : Ev d 20 10 L (.ref r :: st) (t, V, A, P) Q = Ev d 20 13 L (V r 5 :: st) (t, V, A, P) Q := e_getf (by decide +kernel : decode (bOf 20) 10 = .ok (.getfield 32, 3)) (by decide +kernel) (by decide +kernel) h
theorem x_20_13 : Ev d 20 13 L st μ Q = Ev d 20 22 L st μ Q := e_goto (by decide +kernel : decode (bOf 20) 13 = .ok (.goto 9, 3)) (by omega)
theorem x_20_16 : Ev d 20 16 (.ref r :: L) st μ Q = Ev d 20 17 (.ref r :: L) (.ref r :: st) μ Q := e_aload_n (by decide +kernel : decode (bOf 20) 16 = .ok (.aload_n 0, 1)) rfl
theorem x_20_17 (h : kd t r = 1) : Ev d 20 17 L (.ref r :: st) (t, V, A, P) Q = Ev d 20 20 L (V r 6 :: st) (t, V, A, P) Q := e_getf (by decide +kernel : decode (bOf 20) 17 = .ok (.getfield 35, 3)) (by decide +kernel) (by decide +kernel) h
theorem x_20_20 : Ev d 20 20 L st μ Q = Ev d 20 21 L (.int (iI 1) :: st) μ Q := e_iconst (by decide +kernel : decode (bOf 20) 20 = .ok (.iconst 1, 1))
theorem x_20_21 : Ev d 20 21 L (.int y :: .int x :: st) μ Q = Ev d 20 22 L (.int (x + y) :: st) μ Q := e_iadd (by decide +kernel : decode (bOf 20) 21 = .ok (.iadd, 1))
theorem x_20_22 (h : a0.category = 1) : Ev d 20 22 (a0 :: a1 :: L) (.int x :: st) μ Q = Ev d 20 23 (a0 :: .int x :: L) st μ Q := e_istore_n (by decide +kernel : decode (bOf 20) 22 = .ok (.istore_n 1, 1)) (by simp [stOK, h])
theorem x_20_23 : Ev d 20 23 (.ref r :: L) st μ Q = Ev d 20 24 (.ref r :: L) (.ref r :: st) μ Q := e_aload_n (by decide +kernel : decode (bOf 20) 23 = .ok (.aload_n 0, 1)) rfl
theorem x_20_24 : Ev d 20 24 L st μ Q = Ev d 20 25 L (.int (iI 0) :: st) μ Q := e_iconst (by decide +kernel : decode (bOf 20) 24 = .ok (.iconst 0, 1))
theorem x_20_25 (h : kd t r = 1) : Ev d 20 25 L (.int x :: .ref r :: st) (t, V, A, P) Q = Ev d 20 28 L st (t, up1 V r (up1 (V r) 8 (.int x)), A, P) Q := e_putf (by decide +kernel : decode (bOf 20) 25 = .ok (.putfield 41, 3)) (by decide +kernel) (by decide +kernel) rfl h
theorem x_20_28 : Ev d 20 28 (.ref r :: L) st μ Q = Ev d 20 29 (.ref r :: L) (.ref r :: st) μ Q := e_aload_n (by decide +kernel : decode (bOf 20) 28 = .ok (.aload_n 0, 1)) rfl
theorem x_20_29 : Ev d 20 29 L st μ Q = Ev d 20 31 L (.int (iI (-9)) :: st) μ Q := e_bipush (by decide +kernel : decode (bOf 20) 29 = .ok (.bipush (-9), 2)) (by decide +kernel)
theorem x_20_31 (h : kd t r = 1) : Ev d 20 31 L (.int x :: .ref r :: st) (t, V, A, P) Q = Ev d 20 34 L st (t, up1 V r (up1 (V r) 9 (.int x)), A, P) Q := e_putf (by decide +kernel : decode (bOf 20) 31 = .ok (.putfield 44, 3)) (by decide +kernel) (by decide +kernel) rfl h
theorem x_20_34 : Ev d 20 34 (.ref r :: L) st μ Q = Ev d 20 35 (.ref r :: L) (.ref r :: st) μ Q := e_aload_n (by decide +kernel : decode (bOf 20) 34 = .ok (.aload_n 0, 1)) rfl
theorem x_20_35 (h : kd t r = 1) : Ev d 20 35 L (.ref r :: st) (t, V, A, P) Q = Ev d 20 38 L (V r 1 :: st) (t, V, A, P) Q := e_getf (by decide +kernel : decode (bOf 20) 35 = .ok (.getfield 18, 3)) (by decide +kernel) (by decide +kernel) h
theorem x_20_38 : Ev d 20 38 (.ref r :: L) st μ Q = Ev d 20 39 (.ref r :: L) (.ref r :: st) μ Q := e_aload_n (by decide +kernel : decode (bOf 20) 38 = .ok (.aload_n 0, 1)) rfl
theorem x_20_39 (h : kd t r = 1) : Ev d 20 39 L (.ref r :: st) (t, V, A, P) Q = Ev d 20 42 L (V r 4 :: st) (t, V, A, P) Q := e_getf (by decide +kernel : decode (bOf 20) 39 = .ok (.getfield 29, 3)) (by decide +kernel) (by decide +kernel) h
theorem x_20_42 (h : kd t r = 2) : Ev d 20 42 L [b0, .ref r] (t, V, A, P) Q = Call d 24 [.ref r, b0] (t, V, A, P) (fun v μ1 => Ev d 20 45 L (v.toList ++ []) μ1 Q) := e_callV (a := [b0]) (r := []) (by decide +kernel : decode (bOf 20) 42 = .ok (.invokevirtual 69, 3)) (by decide +kernel) (by decide +kernel) (by decide +kernel) rfl (by simp) (by decide +kernel) h
theorem x_20_45 : Ev d 20 45 L st μ Q = Ev d 20 46 L (.int (iI 0) :: st) μ Q := e_iconst (by decide +kernel : decode (bOf 20) 45 = .ok (.iconst 0, 1))
theorem x_20_46 (h : a1.category = 1) : Ev d 20 46 (a0 :: a1 :: a2 :: L) (.int x :: st) μ Q = Ev d 20 47 (a0 :: a1 :: .int x :: L) st μ Q := e_istore_n (by decide +kernel : decode (bOf 20) 46 = .ok (.istore_n 2, 1)) (by simp [stOK, h])
theorem x_20_47 : Ev d 20 47 (a0 :: a1 :: .int x :: L) st μ Q = Ev d 20 48 (a0 :: a1 :: .int x :: L) (.int x :: st) μ Q := e_iload_n (by decide +kernel : decode (bOf 20) 47 = .ok (.iload_n 2, 1)) rfl
theorem x_20_48 : Ev d 20 48 (a0 :: .int x :: L) st μ Q = Ev d 20 49 (a0 :: .int x :: L) (.int x :: st) μ Q := e_iload_n (by decide +kernel : decode (bOf 20) 48 = .ok (.iload_n 1, 1)) rfl
theorem x_20_49 : Ev d 20 49 L (.int y :: .int x :: st) μ Q = if x < y then Ev d 20 52 L st μ Q else Ev d 20 136 L st μ Q := e_icmp_ge (by decide +kernel : decode (bOf 20) 49 = .ok (.if_icmp .ge 87, 3)) (by omega)
theorem x_20_52 : Ev d 20 52 (a0 :: a1 :: .int x :: L) st μ Q = Ev d 20 53 (a0 :: a1 :: .int x :: L) (.int x :: st) μ Q := e_iload_n (by decide +kernel : decode (bOf 20) 52 = .ok (.iload_n 2, 1)) rfl
theorem x_20_53 : Ev d 20 53 (.ref r :: L) st μ Q = Ev d 20 54 (.ref r :: L) (.ref r :: st) μ Q := e_aload_n (by decide +kernel : decode (bOf 20) 53 = .ok (.aload_n 0, 1)) rfl
theorem x_20_54 (h : kd t r = 1) : Ev d 20 54 L (.ref r :: st) (t, V, A, P) Q = Ev d 20 57 L (V r 5 :: st) (t, V, A, P) Q := e_getf (by decide +kernel : decode (bOf 20) 54 = .ok (.getfield 32, 3)) (by decide +kernel) (by decide +kernel) h
theorem x_20_57 : Ev d 20 57 L (.int y :: .int x :: st) μ Q = if x < y then Ev d 20 60 L st μ Q else Ev d 20 136 L st μ Q := e_icmp_ge (by decide +kernel : decode (bOf 20) 57 = .ok (.if_icmp .ge 79, 3)) (by omega)
theorem x_20_60 : Ev d 20 60 L st μ Q = Ev d 20 61 L (.int (iI 0) :: st) μ Q := e_iconst (by decide +kernel : decode (bOf 20) 60 = .ok (.iconst 0, 1))
theorem x_20_61 (h : a2.category = 1) : Ev d 20 61 (a0 :: a1 :: a2 :: a3 :: L) (.int x :: st) μ Q = Ev d 20 62 (a0 :: a1 :: a2 :: .int x :: L) st μ Q := e_istore_n (by decide +kernel : decode (bOf 20) 61 = .ok (.istore_n 3, 1)) (by simp [stOK, h])
theorem x_20_62 : Ev d 20 62 (a0 :: a1 :: a2 :: .int x :: L) st μ Q = Ev d 20 63 (a0 :: a1 :: a2 :: .int x :: L) (.int x :: st) μ Q := e_iload_n (by decide +kernel : decode (bOf 20) 62 = .ok (.iload_n 3, 1)) rfl
theorem x_20_63 : Ev d 20 63 L st μ Q = Ev d 20 65 L (.int (iI 6) :: st) μ Q := e_bipush (by decide +kernel : decode (bOf 20) 63 = .ok (.bipush 6, 2)) (by decide +kernel)
theorem x_20_65 : Ev d 20 65 L (.int y :: .int x :: st) μ Q = if x < y then Ev d 20 68 L st μ Q else Ev d 20 117 L st μ Q := e_icmp_ge (by decide +kernel : decode (bOf 20) 65 = .ok (.if_icmp .ge 52, 3)) (by omega)
theorem x_20_68 : Ev d 20 68 (.ref r :: L) st μ Q = Ev d 20 69 (.ref r :: L) (.ref r :: st) μ Q := e_aload_n (by decide +kernel : decode (bOf 20) 68 = .ok (.aload_n 0, 1)) rfl
theorem x_20_69 : Ev d 20 69 (a0 :: a1 :: .int x :: L) st μ Q = Ev d 20 70 (a0 :: a1 :: .int x :: L) (.int x :: st) μ Q := e_iload_n (by decide +kernel : decode (bOf 20) 69 = .ok (.iload_n 2, 1)) rfl
theorem x_20_70 : Ev d 20 70 (a0 :: a1 :: a2 :: .int x :: L) st μ Q = Ev d 20 71 (a0 :: a1 :: a2 :: .int x :: L) (.int x :: st) μ Q := e_iload_n (by decide +kernel : decode (bOf 20) 70 = .ok (.iload_n 3, 1)) rfl
theorem x_20_71 (h : kd t r = 1) : Ev d 20 71 L [b1, b0, .ref r] (t, V, A, P) Q = Call d 21 [.ref r, b0, b1] (t, V, A, P) (fun v μ1 => Ev d 20 74 L (v.toList ++ []) μ1 Q) := e_callV (a := [b0, b1]) (r := []) (by decide +kernel : decode (bOf 20) 71 = .ok (.invokevirtual 76, 3)) (by decide +kernel) (by decide +kernel) (by decide +kernel) rfl (by simp) (by decide +kernel) h
theorem x_20_74 : Ev d 20 74 L (.int x :: st) μ Q = if x = iI 0 then Ev d 20 111 L st μ Q else Ev d 20 77 L st μ Q := e_if_eq (by decide +kernel : decode (bOf 20) 74 = .ok (.ifCond .eq 37, 3)) (by omega)
theorem x_20_77 : Ev d 20 77 (.ref r :: L) st μ Q = Ev d 20 78 (.ref r :: L) (.ref r :: st) μ Q := e_aload_n (by decide +kernel : decode (bOf 20) 77 = .ok (.aload_n 0, 1)) rfl
theorem x_20_78 : Ev d 20 78 L (.ref r :: st) μ Q = Ev d 20 79 L (.ref r :: .ref r :: st) μ Q := e_dup_a (by decide +kernel : decode (bOf 20) 78 = .ok (.dup, 1))
theorem x_20_79 (h : kd t r = 1) : Ev d 20 79 L (.ref r :: st) (t, V, A, P) Q = Ev d 20 82 L (V r 8 :: st) (t, V, A, P) Q := e_getf (by decide +kernel : decode (bOf 20) 79 = .ok (.getfield 41, 3)) (by decide +kernel) (by decide +kernel) h
theorem x_20_82 : Ev d 20 82 L st μ Q = Ev d 20 83 L (.int (iI 1) :: st) μ Q := e_iconst (by decide +kernel : decode (bOf 20) 82 = .ok (.iconst 1, 1))
theorem x_20_83 : Ev d 20 83 L (.int y :: .int x :: st) μ Q = Ev d 20 84 L (.int (x + y) :: st) μ Q := e_iadd (by decide +kernel : decode (bOf 20) 83 = .ok (.iadd, 1))
theorem x_20_84 (h : kd t r = 1) : Ev d 20 84 L (.int x :: .ref r :: st) (t, V, A, P) Q = Ev d 20 87 L st (t, up1 V r (up1 (V r) 8 (.int x)), A, P) Q := e_putf (by decide +kernel : decode (bOf 20) 84 = .ok (.putfield 41, 3)) (by decide +kernel) (by decide +kernel) rfl h
theorem x_20_87 : Ev d 20 87 (.ref r :: L) st μ Q = Ev d 20 88 (.ref r :: L) (.ref r :: st) μ Q := e_aload_n (by decide +kernel : decode (bOf 20) 87 = .ok (.aload_n 0, 1)) rfl
theorem x_20_88 (h : kd t r = 1) : Ev d 20 88 L (.ref r :: st) (t, V, A, P) Q = Ev d 20 91 L (V r 9 :: st) (t, V, A, P) Q := e_getf (by decide +kernel : decode (bOf 20) 88 = .ok (.getfield 44, 3)) (by decide +kernel) (by decide +kernel) h
theorem x_20_91 : Ev d 20 91 L st μ Q = Ev d 20 93 L (.int (iI (-9)) :: st) μ Q := e_bipush (by decide +kernel : decode (bOf 20) 91 = .ok (.bipush (-9), 2)) (by decide +kernel)
theorem x_20_93 : Ev d 20 93 L (.int y :: .int x :: st) μ Q = if x = y then Ev d 20 96 L st μ Q else Ev d 20 111 L st μ Q := e_icmp_ne (by decide +kernel : decode (bOf 20) 93 = .ok (.if_icmp .ne 18, 3)) (by omega)
theorem x_20_96 : Ev d 20 96 (.ref r :: L) st μ Q = Ev d 20 97 (.ref r :: L) (.ref r :: st) μ Q := e_aload_n (by decide +kernel : decode (bOf 20) 96 = .ok (.aload_n 0, 1)) rfl
theorem x_20_97 : Ev d 20 97 (.ref r :: L) st μ Q = Ev d 20 98 (.ref r :: L) (.ref r :: st) μ Q := e_aload_n (by decide +kernel : decode (bOf 20) 97 = .ok (.aload_n 0, 1)) rfl
theorem x_20_98 (h : kd t r = 1) : Ev d 20 98 L (.ref r :: st) (t, V, A, P) Q = Ev d 20 101 L (V r 3 :: st) (t, V, A, P) Q := e_getf (by decide +kernel : decode (bOf 20) 98 = .ok (.getfield 25, 3)) (by decide +kernel) (by decide +kernel) h
theorem x_20_101 : Ev d 20 101 (a0 :: a1 :: .int x :: L) st μ Q = Ev d 20 102 (a0 :: a1 :: .int x :: L) (.int x :: st) μ Q := e_iload_n (by decide +kernel : decode (bOf 20) 101 = .ok (.iload_n 2, 1)) rfl
theorem x_20_102 : Ev d 20 102 L st μ Q = Ev d 20 104 L (.int (iI 6) :: st) μ Q := e_bipush (by decide +kernel : decode (bOf 20) 102 = .ok (.bipush 6, 2)) (by decide +kernel)
theorem x_20_104 : Ev d 20 104 L (.int y :: .int x :: st) μ Q = Ev d 20 105 L (.int (x * y) :: st) μ Q := e_imul (by decide +kernel : decode (bOf 20) 104 = .ok (.imul, 1))
theorem x_20_105 : Ev d 20 105 L (.int y :: .int x :: st) μ Q = Ev d 20 106 L (.int (x + y) :: st) μ Q := e_iadd (by decide +kernel : decode (bOf 20) 105 = .ok (.iadd, 1))
theorem x_20_106 : Ev d 20 106 (a0 :: a1 :: a2 :: .int x :: L) st μ Q = Ev d 20 107 (a0 :: a1 :: a2 :: .int x :: L) (.int x :: st) μ Q := e_iload_n (by decide +kernel : decode (bOf 20) 106 = .ok (.iload_n 3, 1)) rfl
theorem x_20_107 : Ev d 20 107 L (.int y :: .int x :: st) μ Q = Ev d 20 108 L (.int (x + y) :: st) μ Q := e_iadd (by decide +kernel : decode (bOf 20) 107 = .ok (.iadd, 1))
theorem x_20_108 (h : kd t r = 1) : Ev d 20 108 L (.int x :: .ref r :: st) (t, V, A, P) Q = Ev d 20 111 L st (t, up1 V r (up1 (V r) 9 (.int x)), A, P) Q := e_putf (by decide +kernel : decode (bOf 20) 108 = .ok (.putfield 44, 3)) (by decide +kernel) (by decide +kernel) rfl h
theorem x_20_111 (h : a2.category = 1) : Ev d 20 111 (a0 :: a1 :: a2 :: .int x :: L) st μ Q = Ev d 20 114 (a0 :: a1 :: a2 :: .int (x + (iI 1)) :: L) st μ Q := e_iinc (by decide +kernel : decode (bOf 20) 111 = .ok (.iinc 3 1, 3)) rfl (by simp [stOK, h])
theorem x_20_114 : Ev d 20 114 L st μ Q = Ev d 20 62 L st μ Q := e_goto (by decide +kernel : decode (bOf 20) 114 = .ok (.goto (-52), 3)) (by omega)
theorem x_20_117 : Ev d 20 117 (.ref r :: L) st μ Q = Ev d 20 118 (.ref r :: L) (.ref r :: st) μ Q := e_aload_n (by decide +kernel : decode (bOf 20) 117 = .ok (.aload_n 0, 1)) rfl
theorem x_20_118 (h : kd t r = 1) : Ev d 20 118 L (.ref r :: st) (t, V, A, P) Q = Ev d 20 121 L (V r 1 :: st) (t, V, A, P) Q := e_getf (by decide +kernel : decode (bOf 20) 118 = .ok (.getfield 18, 3)) (by decide +kernel) (by decide +kernel) h
theorem x_20_121 : Ev d 20 121 (.ref r :: L) st μ Q = Ev d 20 122 (.ref r :: L) (.ref r :: st) μ Q := e_aload_n (by decide +kernel : decode (bOf 20) 121 = .ok (.aload_n 0, 1)) rfl
theorem x_20_122 : Ev d 20 122 (a0 :: a1 :: .int x :: L) st μ Q = Ev d 20 123 (a0 :: a1 :: .int x :: L) (.int x :: st) μ Q := e_iload_n (by decide +kernel : decode (bOf 20) 122 = .ok (.iload_n 2, 1)) rfl
theorem x_20_123 (h : kd t r = 1) : Ev d 20 123 L [b0, .ref r, s0] (t, V, A, P) Q = Call d 15 [.ref r, b0] (t, V, A, P) (fun v μ1 => Ev d 20 126 L (v.toList ++ [s0]) μ1 Q) := e_callV (a := [b0]) (r := [s0]) (by decide +kernel : decode (bOf 20) 123 = .ok (.invokevirtual 57, 3)) (by decide +kernel) (by decide +kernel) (by decide +kernel) rfl (by simp) (by decide +kernel) h
theorem x_20_126 (h : kd t r = 2) : Ev d 20 126 L [b0, .ref r] (t, V, A, P) Q = Call d 27 [.ref r, b0] (t, V, A, P) (fun v μ1 => Ev d 20 129 L (v.toList ++ []) μ1 Q) := e_callV (a := [b0]) (r := []) (by decide +kernel : decode (bOf 20) 126 = .ok (.invokevirtual 73, 3)) (by decide +kernel) (by decide +kernel) (by decide +kernel) rfl (by simp) (by decide +kernel) h
theorem x_20_129 : Ev d 20 129 L (.int x :: st) μ Q = Ev d 20 130 L st μ Q := e_pop (by decide +kernel : decode (bOf 20) 129 = .ok (.pop, 1))
theorem x_20_130 (h : a1.category = 1) : Ev d 20 130 (a0 :: a1 :: .int x :: L) st μ Q = Ev d 20 133 (a0 :: a1 :: .int (x + (iI 1)) :: L) st μ Q := e_iinc (by decide +kernel : decode (bOf 20) 130 = .ok (.iinc 2 1, 3)) rfl (by simp [stOK, h])
theorem x_20_133 : Ev d 20 133 L st μ Q = Ev d 20 47 L st μ Q := e_goto (by decide +kernel : decode (bOf 20) 133 = .ok (.goto (-86), 3)) (by omega)
theorem x_20_136 : Ev d 20 136 L [] μ Q = Q none μ := e_ret (by decide +kernel : decode (bOf 20) 136 = .ok (.return_, 1)) (by decide +kernel)
theorem c_21 : Call (d + 1) 21 [a0, a1, a2] μ Q = Ev d 21 0 [a0, a1, a2, .null] [] μ Q := call_ev rfl
theorem x_21_0 : Ev d 21 0 (.ref r :: L) st μ Q = Ev d 21 1 (.ref r :: L) (.ref r :: st) μ Q := e_aload_n (by decide +kernel : decode (bOf 21) 0 = .ok (.aload_n 0, 1)) rfl
theorem x_21_1 (h : kd t r = 1) : Ev d 21 1 L (.ref r :: st) (t, V, A, P) Q = Ev d 21 4 L (V r 2 :: st) (t, V, A, P) Q := e_getf (by decide +kernel : decode (bOf 21) 1 = .ok (.getfield 22, 3)) (by decide +kernel) (by decide +kernel) h
theorem x_21_4 : Ev d 21 4 (.ref r :: L) st μ Q = Ev d 21 5 (.ref r :: L) (.ref r :: st) μ Q := e_aload_n (by decide +kernel : decode (bOf 21) 4 = .ok (.aload_n 0, 1)) rfl
theorem x_21_5 (h : kd t r = 1) : Ev d 21 5 L (.ref r :: st) (t, V, A, P) Q = Ev d 21 8 L (V r 1 :: st) (t, V, A, P) Q := e_getf (by decide +kernel : decode (bOf 21) 5 = .ok (.getfield 18, 3)) (by decide +kernel) (by decide +kernel) h
theorem x_21_8 (h : kd t r = 2) : Ev d 21 8 L [b0, .ref r] (t, V, A, P) Q = Call d 25 [.ref r, b0] (t, V, A, P) (fun v μ1 => Ev d 21 11 L (v.toList ++ []) μ1 Q) := e_callV (a := [b0]) (r := []) (by decide +kernel : decode (bOf 21) 8 = .ok (.invokevirtual 80, 3)) (by decide +kernel) (by decide +kernel) (by decide +kernel) rfl (by simp) (by decide +kernel) h
theorem x_21_11 : Ev d 21 11 (.ref r :: L) st μ Q = Ev d 21 12 (.ref r :: L) (.ref r :: st) μ Q := e_aload_n (by decide +kernel : decode (bOf 21) 11 = .ok (.aload_n 0, 1)) rfl
theorem x_21_12 (h : kd t r = 1) : Ev d 21 12 L (.ref r :: st) (t, V, A, P) Q = Ev d 21 15 L (V r 2 :: st) (t, V, A, P) Q := e_getf (by decide +kernel : decode (bOf 21) 12 = .ok (.getfield 22, 3)) (by decide +kernel) (by decide +kernel) h
theorem x_21_15 : Ev d 21 15 (.ref r :: L) st μ Q = Ev d 21 16 (.ref r :: L) (.ref r :: st) μ Q := e_aload_n (by decide +kernel : decode (bOf 21) 15 = .ok (.aload_n 0, 1)) rfl
theorem x_21_16 : Ev d 21 16 (a0 :: .int x :: L) st μ Q = Ev d 21 17 (a0 :: .int x :: L) (.int x :: st) μ Q := e_iload_n (by decide +kernel : decode (bOf 21) 16 = .ok (.iload_n 1, 1)) rfl
theorem x_21_17 (h : kd t r = 1) : Ev d 21 17 L [b0, .ref r, s0] (t, V, A, P) Q = Call d 15 [.ref r, b0] (t, V, A, P) (fun v μ1 => Ev d 21 20 L (v.toList ++ [s0]) μ1 Q) := e_callV (a := [b0]) (r := [s0]) (by decide +kernel : decode (bOf 21) 17 = .ok (.invokevirtual 57, 3)) (by decide +kernel) (by decide +kernel) (by decide +kernel) rfl (by simp) (by decide +kernel) h
theorem x_21_20 : Ev d 21 20 L st μ Q = Ev d 21 21 L (.int (iI 1) :: st) μ Q := e_iconst (by decide +kernel : decode (bOf 21) 20 = .ok (.iconst 1, 1))
theorem x_21_21 : Ev d 21 21 L st μ Q = Ev d 21 22 L (.int (iI 5) :: st) μ Q := e_iconst (by decide +kernel : decode (bOf 21) 21 = .ok (.iconst 5, 1))
theorem x_21_22 : Ev d 21 22 (a0 :: a1 :: .int x :: L) st μ Q = Ev d 21 23 (a0 :: a1 :: .int x :: L) (.int x :: st) μ Q := e_iload_n (by decide +kernel : decode (bOf 21) 22 = .ok (.iload_n 2, 1)) rfl
theorem x_21_23 : Ev d 21 23 L (.int y :: .int x :: st) μ Q = Ev d 21 24 L (.int (x - y) :: st) μ Q := e_isub (by decide +kernel : decode (bOf 21) 23 = .ok (.isub, 1))
theorem x_21_24 : Ev d 21 24 L (.int y :: .int x :: st) μ Q = Ev d 21 25 L (.int (x <<< (y &&& 31)) :: st) μ Q := e_ishl (by decide +kernel : decode (bOf 21) 24 = .ok (.ishl, 1))
theorem x_21_25 : Ev d 21 25 L (.int y :: .int x :: st) μ Q = Ev d 21 26 L (.int (x ^^^ y) :: st) μ Q := e_ixor (by decide +kernel : decode (bOf 21) 25 = .ok (.ixor, 1))
theorem x_21_26 (h : kd t r = 2) : Ev d 21 26 L [b0, .ref r] (t, V, A, P) Q = Call d 27 [.ref r, b0] (t, V, A, P) (fun v μ1 => Ev d 21 29 L (v.toList ++ []) μ1 Q) := e_callV (a := [b0]) (r := []) (by decide +kernel : decode (bOf 21) 26 = .ok (.invokevirtual 73, 3)) (by decide +kernel) (by decide +kernel) (by decide +kernel) rfl (by simp) (by decide +kernel) h
theorem x_21_29 : Ev d 21 29 L (.int x :: st) μ Q = if x = iI 0 then Ev d 21 34 L st μ Q else Ev d 21 32 L st μ Q := e_if_eq (by decide +kernel : decode (bOf 21) 29 = .ok (.ifCond .eq 5, 3)) (by omega)
theorem x_21_32 : Ev d 21 32 L st μ Q = Ev d 21 33 L (.int (iI 0) :: st) μ Q := e_iconst (by decide +kernel : decode (bOf 21) 32 = .ok (.iconst 0, 1))
theorem x_21_33 (hx : isB x) : Ev d 21 33 L [.int x] μ Q = Q (some (.int x)) μ := e_zret (by decide +kernel : decode (bOf 21) 33 = .ok (.ireturn, 1)) (by decide +kernel) hx
theorem x_21_34 : Ev d 21 34 (a0 :: .int x :: L) st μ Q = Ev d 21 35 (a0 :: .int x :: L) (.int x :: st) μ Q := e_iload_n (by decide +kernel : decode (bOf 21) 34 = .ok (.iload_n 1, 1)) rfl
theorem x_21_35 : Ev d 21 35 L st μ Q = Ev d 21 36 L (.int (iI 1) :: st) μ Q := e_iconst (by decide +kernel : decode (bOf 21) 35 = .ok (.iconst 1, 1))
theorem x_21_36 : Ev d 21 36 L (.int y :: .int x :: st) μ Q = Ev d 21 37 L (.int (x + y) :: st) μ Q := e_iadd (by decide +kernel : decode (bOf 21) 36 = .ok (.iadd, 1))
theorem x_21_37 (h : a2.category = 1) : Ev d 21 37 (a0 :: a1 :: a2 :: a3 :: L) (.int x :: st) μ Q = Ev d 21 38 (a0 :: a1 :: a2 :: .int x :: L) st μ Q := e_istore_n (by decide +kernel : decode (bOf 21) 37 = .ok (.istore_n 3, 1)) (by simp [stOK, h])
theorem x_21_38 : Ev d 21 38 (a0 :: a1 :: a2 :: .int x :: L) st μ Q = Ev d 21 39 (a0 :: a1 :: a2 :: .int x :: L) (.int x :: st) μ Q := e_iload_n (by decide +kernel : decode (bOf 21) 38 = .ok (.iload_n 3, 1)) rfl
theorem x_21_39 : Ev d 21 39 (.ref r :: L) st μ Q = Ev d 21 40 (.ref r :: L) (.ref r :: st) μ Q := e_aload_n (by decide +kernel : decode (bOf 21) 39 = .ok (.aload_n 0, 1)) rfl
theorem x_21_40 (h : kd t r = 1) : Ev d 21 40 L (.ref r :: st) (t, V, A, P) Q = Ev d 21 43 L (V r 5 :: st) (t, V, A, P) Q := e_getf (by decide +kernel : decode (bOf 21) 40 = .ok (.getfield 32, 3)) (by decide +kernel) (by decide +kernel) h
theorem x_21_43 : Ev d 21 43 L (.int y :: .int x :: st) μ Q = if x < y then Ev d 21 46 L st μ Q else Ev d 21 69 L st μ Q := e_icmp_ge (by decide +kernel : decode (bOf 21) 43 = .ok (.if_icmp .ge 26, 3)) (by omega)
theorem x_21_46 : Ev d 21 46 (.ref r :: L) st μ Q = Ev d 21 47 (.ref r :: L) (.ref r :: st) μ Q := e_aload_n (by decide +kernel : decode (bOf 21) 46 = .ok (.aload_n 0, 1)) rfl
theorem x_21_47 (h : kd t r = 1) : Ev d 21 47 L (.ref r :: st) (t, V, A, P) Q = Ev d 21 50 L (V r 2 :: st) (t, V, A, P) Q := e_getf (by decide +kernel : decode (bOf 21) 47 = .ok (.getfield 22, 3)) (by decide +kernel) (by decide +kernel) h
theorem x_21_50 : Ev d 21 50 (.ref r :: L) st μ Q = Ev d 21 51 (.ref r :: L) (.ref r :: st) μ Q := e_aload_n (by decide +kernel : decode (bOf 21) 50 = .ok (.aload_n 0, 1)) rfl
theorem x_21_51 : Ev d 21 51 (a0 :: a1 :: a2 :: .int x :: L) st μ Q = Ev d 21 52 (a0 :: a1 :: a2 :: .int x :: L) (.int x :: st) μ Q := e_iload_n (by decide +kernel : decode (bOf 21) 51 = .ok (.iload_n 3, 1)) rfl
theorem x_21_52 (h : kd t r = 1) : Ev d 21 52 L [b0, .ref r, s0] (t, V, A, P) Q = Call d 15 [.ref r, b0] (t, V, A, P) (fun v μ1 => Ev d 21 55 L (v.toList ++ [s0]) μ1 Q) := e_callV (a := [b0]) (r := [s0]) (by decide +kernel : decode (bOf 21) 52 = .ok (.invokevirtual 57, 3)) (by decide +kernel) (by decide +kernel) (by decide +kernel) rfl (by simp) (by decide +kernel) h
theorem x_21_55 (h : kd t r = 2) : Ev d 21 55 L [b0, .ref r] (t, V, A, P) Q = Call d 27 [.ref r, b0] (t, V, A, P) (fun v μ1 => Ev d 21 58 L (v.toList ++ []) μ1 Q) := e_callV (a := [b0]) (r := []) (by decide +kernel : decode (bOf 21) 55 = .ok (.invokevirtual 73, 3)) (by decide +kernel) (by decide +kernel) (by decide +kernel) rfl (by simp) (by decide +kernel) h
theorem x_21_58 : Ev d 21 58 L (.int x :: st) μ Q = if x = iI 0 then Ev d 21 63 L st μ Q else Ev d 21 61 L st μ Q := e_if_eq (by decide +kernel : decode (bOf 21) 58 = .ok (.ifCond .eq 5, 3)) (by omega)
theorem x_21_61 : Ev d 21 61 L st μ Q = Ev d 21 62 L (.int (iI 0) :: st) μ Q := e_iconst (by decide +kernel : decode (bOf 21) 61 = .ok (.iconst 0, 1))
theorem x_21_62 (hx : isB x) : Ev d 21 62 L [.int x] μ Q = Q (some (.int x)) μ := e_zret (by decide +kernel : decode (bOf 21) 62 = .ok (.ireturn, 1)) (by decide +kernel) hx
theorem x_21_63 (h : a2.category = 1) : Ev d 21 63 (a0 :: a1 :: a2 :: .int x :: L) st μ Q = Ev d 21 66 (a0 :: a1 :: a2 :: .int (x + (iI 1)) :: L) st μ Q := e_iinc (by decide +kernel : decode (bOf 21) 63 = .ok (.iinc 3 1, 3)) rfl (by simp [stOK, h])
theorem x_21_66 : Ev d 21 66 L st μ Q = Ev d 21 38 L st μ Q := e_goto (by decide +kernel : decode (bOf 21) 66 = .ok (.goto (-28), 3)) (by omega)
theorem x_21_69 : Ev d 21 69 L st μ Q = Ev d 21 70 L (.int (iI 1) :: st) μ Q := e_iconst (by decide +kernel : decode (bOf 21) 69 = .ok (.iconst 1, 1))
theorem x_21_70 (hx : isB x) : Ev d 21 70 L [.int x] μ Q = Q (some (.int x)) μ := e_zret (by decide +kernel : decode (bOf 21) 70 = .ok (.ireturn, 1)) (by decide +kernel) hx
theorem c_22 : Call (d + 1) 22 [a0] μ Q = Ev d 22 0 [a0] [] μ Q := call_ev rfl
theorem x_22_0 : Ev d 22 0 (.ref r :: L) st μ Q = Ev d 22 1 (.ref r :: L) (.ref r :: st) μ Q := e_aload_n (by decide +kernel : decode (bOf 22) 0 = .ok (.aload_n 0, 1)) rfl
theorem x_22_1 (h : kd t r = 1) : Ev d 22 1 L (.ref r :: st) (t, V, A, P) Q = Ev d 22 4 L (V r 6 :: st) (t, V, A, P) Q := e_getf (by decide +kernel : decode (bOf 22) 1 = .ok (.getfield 35, 3)) (by decide +kernel) (by decide +kernel) h
theorem x_22_4 : Ev d 22 4 L st μ Q = Ev d 22 6 L (.int (iI (-9)) :: st) μ Q := e_bipush (by decide +kernel : decode (bOf 22) 4 = .ok (.bipush (-9), 2)) (by decide +kernel)
theorem x_22_6 : Ev d 22 6 L (.int y :: .int x :: st) μ Q = if x = y then Ev d 22 18 L st μ Q else Ev d 22 9 L st μ Q := e_icmp_eq (by decide +kernel : decode (bOf 22) 6 = .ok (.if_icmp .eq 12, 3)) (by omega)
theorem x_22_9 : Ev d 22 9 (.ref r :: L) st μ Q = Ev d 22 10 (.ref r :: L) (.ref r :: st) μ Q := e_aload_n (by decide +kernel : decode (bOf 22) 9 = .ok (.aload_n 0, 1)) rfl
theorem x_22_10 (h : kd t r = 1) : Ev d 22 10 L (.ref r :: st) (t, V, A, P) Q = Ev d 22 13 L (V r 9 :: st) (t, V, A, P) Q := e_getf (by decide +kernel : decode (bOf 22) 10 = .ok (.getfield 44, 3)) (by decide +kernel) (by decide +kernel) h
theorem x_22_13 : Ev d 22 13 L st μ Q = Ev d 22 15 L (.int (iI (-9)) :: st) μ Q := e_bipush (by decide +kernel : decode (bOf 22) 13 = .ok (.bipush (-9), 2)) (by decide +kernel)
theorem x_22_15 : Ev d 22 15 L (.int y :: .int x :: st) μ Q = if x = y then Ev d 22 18 L st μ Q else Ev d 22 21 L st μ Q := e_icmp_ne (by decide +kernel : decode (bOf 22) 15 = .ok (.if_icmp .ne 6, 3)) (by omega)
theorem x_22_18 : Ev d 22 18 L st μ Q = Ev d 22 20 L (.int (iI (-2000000)) :: st) μ Q := e_ldc (by decide +kernel : decode (bOf 22) 18 = .ok (.ldc 84, 2)) (by decide +kernel)
theorem x_22_20 : Ev d 22 20 L [.int x] μ Q = Q (some (.int x)) μ := e_iret (by decide +kernel : decode (bOf 22) 20 = .ok (.ireturn, 1)) (by decide +kernel)
theorem x_22_21 : Ev d 22 21 (.ref r :: L) st μ Q = Ev d 22 22 (.ref r :: L) (.ref r :: st) μ Q := e_aload_n (by decide +kernel : decode (bOf 22) 21 = .ok (.aload_n 0, 1)) rfl
theorem x_22_22 (h : kd t r = 1) : Ev d 22 22 L (.ref r :: st) (t, V, A, P) Q = Ev d 22 25 L (V r 6 :: st) (t, V, A, P) Q := e_getf (by decide +kernel : decode (bOf 22) 22 = .ok (.getfield 35, 3)) (by decide +kernel) (by decide +kernel) h
theorem x_22_25 : Ev d 22 25 (.ref r :: L) st μ Q = Ev d 22 26 (.ref r :: L) (.ref r :: st) μ Q := e_aload_n (by decide +kernel : decode (bOf 22) 25 = .ok (.aload_n 0, 1)) rfl
theorem x_22_26 (h : kd t r = 1) : Ev d 22 26 L (.ref r :: st) (t, V, A, P) Q = Ev d 22 29 L (V r 9 :: st) (t, V, A, P) Q := e_getf (by decide +kernel : decode (bOf 22) 26 = .ok (.getfield 44, 3)) (by decide +kernel) (by decide +kernel) h
theorem x_22_29 : Ev d 22 29 (.ref r :: L) st μ Q = Ev d 22 30 (.ref r :: L) (.ref r :: st) μ Q := e_aload_n (by decide +kernel : decode (bOf 22) 29 = .ok (.aload_n 0, 1)) rfl
theorem x_22_30 (h : kd t r = 1) : Ev d 22 30 L (.ref r :: st) (t, V, A, P) Q = Ev d 22 33 L (V r 3 :: st) (t, V, A, P) Q := e_getf (by decide +kernel : decode (bOf 22) 30 = .ok (.getfield 25, 3)) (by decide +kernel) (by decide +kernel) h
theorem x_22_33 : Ev d 22 33 L (.int y :: .int x :: st) μ Q = Ev d 22 34 L (.int (x - y) :: st) μ Q := e_isub (by decide +kernel : decode (bOf 22) 33 = .ok (.isub, 1))
theorem x_22_34 : Ev d 22 34 L st μ Q = Ev d 22 36 L (.int (iI 6) :: st) μ Q := e_bipush (by decide +kernel : decode (bOf 22) 34 = .ok (.bipush 6, 2)) (by decide +kernel)
theorem x_22_36 (h : ¬ y = 0) : Ev d 22 36 L (.int y :: .int x :: st) μ Q = Ev d 22 37 L (.int (x / y) :: st) μ Q := e_idiv (by decide +kernel : decode (bOf 22) 36 = .ok (.idiv, 1)) h
theorem x_22_37 : Ev d 22 37 L (.int y :: .int x :: st) μ Q = Ev d 22 38 L (.int (x - y) :: st) μ Q := e_isub (by decide +kernel : decode (bOf 22) 37 = .ok (.isub, 1))
theorem x_22_38 : Ev d 22 38 L [.int x] μ Q = Q (some (.int x)) μ := e_iret (by decide +kernel : decode (bOf 22) 38 = .ok (.ireturn, 1)) (by decide +kernel)
theorem c_23 : Call (d + 1) 23 [a0] μ Q = Ev d 23 0 [a0] [] μ Q := call_ev rfl
theorem x_23_0 : Ev d 23 0 (.ref r :: L) st μ Q = Ev d 23 1 (.ref r :: L) (.ref r :: st) μ Q := e_aload_n (by decide +kernel : decode (bOf 23) 0 = .ok (.aload_n 0, 1)) rfl
theorem x_23_1 : Ev d 23 1 L (.ref r :: st) μ Q = Ev d 23 4 L st μ Q := e_obj (by decide +kernel : decode (bOf 23) 1 = .ok (.invokespecial 3, 3)) (by decide +kernel) (by decide +kernel)
theorem x_23_4 : Ev d 23 4 (.ref r :: L) st μ Q = Ev d 23 5 (.ref r :: L) (.ref r :: st) μ Q := e_aload_n (by decide +kernel : decode (bOf 23) 4 = .ok (.aload_n 0, 1)) rfl
theorem x_23_5 : Ev d 23 5 L st μ Q = Ev d 23 6 L (.int (iI (-1)) :: st) μ Q := e_iconst (by decide +kernel : decode (bOf 23) 5 = .ok (.iconst (-1), 1))
theorem x_23_6 (h : kd t r = 2) : Ev d 23 6 L (.int x :: .ref r :: st) (t, V, A, P) Q = Ev d 23 9 L st (t, up1 V r (up1 (V r) 0 (.int x)), A, P) Q := e_putf (by decide +kernel : decode (bOf 23) 6 = .ok (.putfield 9, 3)) (by decide +kernel) (by decide +kernel) rfl h
theorem x_23_9 : Ev d 23 9 (.ref r :: L) st μ Q = Ev d 23 10 (.ref r :: L) (.ref r :: st) μ Q := e_aload_n (by decide +kernel : decode (bOf 23) 9 = .ok (.aload_n 0, 1)) rfl
theorem x_23_10 : Ev d 23 10 L st μ Q = Ev d 23 11 L (.int (iI (-1)) :: st) μ Q := e_iconst (by decide +kernel : decode (bOf 23) 10 = .ok (.iconst (-1), 1))
theorem x_23_11 (h : kd t r = 2) : Ev d 23 11 L (.int x :: .ref r :: st) (t, V, A, P) Q = Ev d 23 14 L st (t, up1 V r (up1 (V r) 1 (.int x)), A, P) Q := e_putf (by decide +kernel : decode (bOf 23) 11 = .ok (.putfield 15, 3)) (by decide +kernel) (by decide +kernel) rfl h
theorem x_23_14 : Ev d 23 14 (.ref r :: L) st μ Q = Ev d 23 15 (.ref r :: L) (.ref r :: st) μ Q := e_aload_n (by decide +kernel : decode (bOf 23) 14 = .ok (.aload_n 0, 1)) rfl
theorem x_23_15 : Ev d 23 15 L st μ Q = Ev d 23 17 L (.int (iI (-9)) :: st) μ Q := e_bipush (by decide +kernel : decode (bOf 23) 15 = .ok (.bipush (-9), 2)) (by decide +kernel)
theorem x_23_17 (h : kd t r = 2) : Ev d 23 17 L (.int x :: .ref r :: st) (t, V, A, P) Q = Ev d 23 20 L st (t, up1 V r (up1 (V r) 2 (.int x)), A, P) Q := e_putf (by decide +kernel : decode (bOf 23) 17 = .ok (.putfield 18, 3)) (by decide +kernel) (by decide +kernel) rfl h
theorem x_23_20 : Ev d 23 20 (.ref r :: L) st μ Q = Ev d 23 21 (.ref r :: L) (.ref r :: st) μ Q := e_aload_n (by decide +kernel : decode (bOf 23) 20 = .ok (.aload_n 0, 1)) rfl
theorem x_23_21 : Ev d 23 21 L st μ Q = Ev d 23 22 L (.int (iI 0) :: st) μ Q := e_iconst (by decide +kernel : decode (bOf 23) 21 = .ok (.iconst 0, 1))
theorem x_23_22 (h : kd t r = 2) : Ev d 23 22 L (.int x :: .ref r :: st) (t, V, A, P) Q = Ev d 23 25 L st (t, up1 V r (up1 (V r) 3 (.int x)), A, P) Q := e_putf (by decide +kernel : decode (bOf 23) 22 = .ok (.putfield 21, 3)) (by decide +kernel) (by decide +kernel) rfl h
theorem x_23_25 : Ev d 23 25 (.ref r :: L) st μ Q = Ev d 23 26 (.ref r :: L) (.ref r :: st) μ Q := e_aload_n (by decide +kernel : decode (bOf 23) 25 = .ok (.aload_n 0, 1)) rfl
theorem x_23_26 : Ev d 23 26 L st μ Q = Ev d 23 27 L (.int (iI 0) :: st) μ Q := e_iconst (by decide +kernel : decode (bOf 23) 26 = .ok (.iconst 0, 1))
theorem x_23_27 (h : kd t r = 2) : Ev d 23 27 L (.int x :: .ref r :: st) (t, V, A, P) Q = Ev d 23 30 L st (t, up1 V r (up1 (V r) 4 (.int x)), A, P) Q := e_putf (by decide +kernel : decode (bOf 23) 27 = .ok (.putfield 24, 3)) (by decide +kernel) (by decide +kernel) rfl h
theorem x_23_30 : Ev d 23 30 L [] μ Q = Q none μ := e_ret (by decide +kernel : decode (bOf 23) 30 = .ok (.return_, 1)) (by decide +kernel)
theorem c_24 : Call (d + 1) 24 [a0, a1] μ Q = Ev d 24 0 [a0, a1] [] μ Q := call_ev rfl
theorem x_24_0 : Ev d 24 0 (.ref r :: L) st μ Q = Ev d 24 1 (.ref r :: L) (.ref r :: st) μ Q := e_aload_n (by decide +kernel : decode (bOf 24) 0 = .ok (.aload_n 0, 1)) rfl
theorem x_24_1 : Ev d 24 1 (a0 :: .int x :: L) st μ Q = Ev d 24 2 (a0 :: .int x :: L) (.int x :: st) μ Q := e_iload_n (by decide +kernel : decode (bOf 24) 1 = .ok (.iload_n 1, 1)) rfl
theorem x_24_2 (h : kd t r = 2) : Ev d 24 2 L (.int x :: .ref r :: st) (t, V, A, P) Q = Ev d 24 5 L st (t, up1 V r (up1 (V r) 0 (.int x)), A, P) Q := e_putf (by decide +kernel : decode (bOf 24) 2 = .ok (.putfield 9, 3)) (by decide +kernel) (by decide +kernel) rfl h
theorem x_24_5 : Ev d 24 5 (.ref r :: L) st μ Q = Ev d 24 6 (.ref r :: L) (.ref r :: st) μ Q := e_aload_n (by decide +kernel : decode (bOf 24) 5 = .ok (.aload_n 0, 1)) rfl
theorem x_24_6 : Ev d 24 6 (a0 :: .int x :: L) st μ Q = Ev d 24 7 (a0 :: .int x :: L) (.int x :: st) μ Q := e_iload_n (by decide +kernel : decode (bOf 24) 6 = .ok (.iload_n 1, 1)) rfl
theorem x_24_7 (h : kd t r = 2) : Ev d 24 7 L (.int x :: .ref r :: st) (t, V, A, P) Q = Ev d 24 10 L st (t, up1 V r (up1 (V r) 1 (.int x)), A, P) Q := e_putf (by decide +kernel : decode (bOf 24) 7 = .ok (.putfield 15, 3)) (by decide +kernel) (by decide +kernel) rfl h
theorem x_24_10 : Ev d 24 10 (.ref r :: L) st μ Q = Ev d 24 11 (.ref r :: L) (.ref r :: st) μ Q := e_aload_n (by decide +kernel : decode (bOf 24) 10 = .ok (.aload_n 0, 1)) rfl
theorem x_24_11 : Ev d 24 11 L st μ Q = Ev d 24 13 L (.int (iI (-9)) :: st) μ Q := e_bipush (by decide +kernel : decode (bOf 24) 11 = .ok (.bipush (-9), 2)) (by decide +kernel)
theorem x_24_13 (h : kd t r = 2) : Ev d 24 13 L (.int x :: .ref r :: st) (t, V, A, P) Q = Ev d 24 16 L st (t, up1 V r (up1 (V r) 2 (.int x)), A, P) Q := e_putf (by decide +kernel : decode (bOf 24) 13 = .ok (.putfield 18, 3)) (by decide +kernel) (by decide +kernel) rfl h
theorem x_24_16 : Ev d 24 16 (.ref r :: L) st μ Q = Ev d 24 17 (.ref r :: L) (.ref r :: st) μ Q := e_aload_n (by decide +kernel : decode (bOf 24) 16 = .ok (.aload_n 0, 1)) rfl
theorem x_24_17 : Ev d 24 17 L st μ Q = Ev d 24 18 L (.int (iI 0) :: st) μ Q := e_iconst (by decide +kernel : decode (bOf 24) 17 = .ok (.iconst 0, 1))
theorem x_24_18 (h : kd t r = 2) : Ev d 24 18 L (.int x :: .ref r :: st) (t, V, A, P) Q = Ev d 24 21 L st (t, up1 V r (up1 (V r) 3 (.int x)), A, P) Q := e_putf (by decide +kernel : decode (bOf 24) 18 = .ok (.putfield 21, 3)) (by decide +kernel) (by decide +kernel) rfl h
theorem x_24_21 : Ev d 24 21 (.ref r :: L) st μ Q = Ev d 24 22 (.ref r :: L) (.ref r :: st) μ Q := e_aload_n (by decide +kernel : decode (bOf 24) 21 = .ok (.aload_n 0, 1)) rfl
theorem x_24_22 : Ev d 24 22 L st μ Q = Ev d 24 23 L (.int (iI 0) :: st) μ Q := e_iconst (by decide +kernel : decode (bOf 24) 22 = .ok (.iconst 0, 1))
theorem x_24_23 (h : kd t r = 2) : Ev d 24 23 L (.int x :: .ref r :: st) (t, V, A, P) Q = Ev d 24 26 L st (t, up1 V r (up1 (V r) 4 (.int x)), A, P) Q := e_putf (by decide +kernel : decode (bOf 24) 23 = .ok (.putfield 24, 3)) (by decide +kernel) (by decide +kernel) rfl h
theorem x_24_26 : Ev d 24 26 L [] μ Q = Q none μ := e_ret (by decide +kernel : decode (bOf 24) 26 = .ok (.return_, 1)) (by decide +kernel)
theorem c_25 : Call (d + 1) 25 [a0, a1] μ Q = Ev d 25 0 [a0, a1] [] μ Q := call_ev rfl
theorem x_25_0 : Ev d 25 0 (.ref r :: L) st μ Q = Ev d 25 1 (.ref r :: L) (.ref r :: st) μ Q := e_aload_n (by decide +kernel : decode (bOf 25) 0 = .ok (.aload_n 0, 1)) rfl
theorem x_25_1 : Ev d 25 1 (a0 :: .ref r :: L) st μ Q = Ev d 25 2 (a0 :: .ref r :: L) (.ref r :: st) μ Q := e_aload_n (by decide +kernel : decode (bOf 25) 1 = .ok (.aload_n 1, 1)) rfl
theorem x_25_2 (h : kd t r = 2) : Ev d 25 2 L (.ref r :: st) (t, V, A, P) Q = Ev d 25 5 L (V r 0 :: st) (t, V, A, P) Q := e_getf (by decide +kernel : decode (bOf 25) 2 = .ok (.getfield 9, 3)) (by decide +kernel) (by decide +kernel) h
theorem x_25_5 (h : kd t r = 2) : Ev d 25 5 L (.int x :: .ref r :: st) (t, V, A, P) Q = Ev d 25 8 L st (t, up1 V r (up1 (V r) 0 (.int x)), A, P) Q := e_putf (by decide +kernel : decode (bOf 25) 5 = .ok (.putfield 9, 3)) (by decide +kernel) (by decide +kernel) rfl h
theorem x_25_8 : Ev d 25 8 (.ref r :: L) st μ Q = Ev d 25 9 (.ref r :: L) (.ref r :: st) μ Q := e_aload_n (by decide +kernel : decode (bOf 25) 8 = .ok (.aload_n 0, 1)) rfl
theorem x_25_9 : Ev d 25 9 (a0 :: .ref r :: L) st μ Q = Ev d 25 10 (a0 :: .ref r :: L) (.ref r :: st) μ Q := e_aload_n (by decide +kernel : decode (bOf 25) 9 = .ok (.aload_n 1, 1)) rfl
theorem x_25_10 (h : kd t r = 2) : Ev d 25 10 L (.ref r :: st) (t, V, A, P) Q = Ev d 25 13 L (V r 1 :: st) (t, V, A, P) Q := e_getf (by decide +kernel : decode (bOf 25) 10 = .ok (.getfield 15, 3)) (by decide +kernel) (by decide +kernel) h
theorem x_25_13 (h : kd t r = 2) : Ev d 25 13 L (.int x :: .ref r :: st) (t, V, A, P) Q = Ev d 25 16 L st (t, up1 V r (up1 (V r) 1 (.int x)), A, P) Q := e_putf (by decide +kernel : decode (bOf 25) 13 = .ok (.putfield 15, 3)) (by decide +kernel) (by decide +kernel) rfl h
theorem x_25_16 : Ev d 25 16 (.ref r :: L) st μ Q = Ev d 25 17 (.ref r :: L) (.ref r :: st) μ Q := e_aload_n (by decide +kernel : decode (bOf 25) 16 = .ok (.aload_n 0, 1)) rfl
theorem x_25_17 : Ev d 25 17 (a0 :: .ref r :: L) st μ Q = Ev d 25 18 (a0 :: .ref r :: L) (.ref r :: st) μ Q := e_aload_n (by decide +kernel : decode (bOf 25) 17 = .ok (.aload_n 1, 1)) rfl
theorem x_25_18 (h : kd t r = 2) : Ev d 25 18 L (.ref r :: st) (t, V, A, P) Q = Ev d 25 21 L (V r 2 :: st) (t, V, A, P) Q := e_getf (by decide +kernel : decode (bOf 25) 18 = .ok (.getfield 18, 3)) (by decide +kernel) (by decide +kernel) h
theorem x_25_21 (h : kd t r = 2) : Ev d 25 21 L (.int x :: .ref r :: st) (t, V, A, P) Q = Ev d 25 24 L st (t, up1 V r (up1 (V r) 2 (.int x)), A, P) Q := e_putf (by decide +kernel : decode (bOf 25) 21 = .ok (.putfield 18, 3)) (by decide +kernel) (by decide +kernel) rfl h
theorem x_25_24 : Ev d 25 24 (.ref r :: L) st μ Q = Ev d 25 25 (.ref r :: L) (.ref r :: st) μ Q := e_aload_n (by decide +kernel : decode (bOf 25) 24 = .ok (.aload_n 0, 1)) rfl
theorem x_25_25 : Ev d 25 25 (a0 :: .ref r :: L) st μ Q = Ev d 25 26 (a0 :: .ref r :: L) (.ref r :: st) μ Q := e_aload_n (by decide +kernel : decode (bOf 25) 25 = .ok (.aload_n 1, 1)) rfl
theorem x_25_26 (h : kd t r = 2) : Ev d 25 26 L (.ref r :: st) (t, V, A, P) Q = Ev d 25 29 L (V r 3 :: st) (t, V, A, P) Q := e_getf (by decide +kernel : decode (bOf 25) 26 = .ok (.getfield 21, 3)) (by decide +kernel) (by decide +kernel) h
theorem x_25_29 (h : kd t r = 2) : Ev d 25 29 L (.int x :: .ref r :: st) (t, V, A, P) Q = Ev d 25 32 L st (t, up1 V r (up1 (V r) 3 (.int x)), A, P) Q := e_putf (by decide +kernel : decode (bOf 25) 29 = .ok (.putfield 21, 3)) (by decide +kernel) (by decide +kernel) rfl h
theorem x_25_32 : Ev d 25 32 (.ref r :: L) st μ Q = Ev d 25 33 (.ref r :: L) (.ref r :: st) μ Q := e_aload_n (by decide +kernel : decode (bOf 25) 32 = .ok (.aload_n 0, 1)) rfl
theorem x_25_33 : Ev d 25 33 (a0 :: .ref r :: L) st μ Q = Ev d 25 34 (a0 :: .ref r :: L) (.ref r :: st) μ Q := e_aload_n (by decide +kernel : decode (bOf 25) 33 = .ok (.aload_n 1, 1)) rfl
theorem x_25_34 (h : kd t r = 2) : Ev d 25 34 L (.ref r :: st) (t, V, A, P) Q = Ev d 25 37 L (V r 4 :: st) (t, V, A, P) Q := e_getf (by decide +kernel : decode (bOf 25) 34 = .ok (.getfield 24, 3)) (by decide +kernel) (by decide +kernel) h
theorem x_25_37 (h : kd t r = 2) : Ev d 25 37 L (.int x :: .ref r :: st) (t, V, A, P) Q = Ev d 25 40 L st (t, up1 V r (up1 (V r) 4 (.int x)), A, P) Q := e_putf (by decide +kernel : decode (bOf 25) 37 = .ok (.putfield 24, 3)) (by decide +kernel) (by decide +kernel) rfl h
theorem x_25_40 : Ev d 25 40 L [] μ Q = Q none μ := e_ret (by decide +kernel : decode (bOf 25) 40 = .ok (.return_, 1)) (by decide +kernel)
theorem c_26 : Call (d + 1) 26 [a0, a1] μ Q = Ev d 26 0 [a0, a1] [] μ Q := call_ev rfl
theorem x_26_0 : Ev d 26 0 (.ref r :: L) st μ Q = Ev d 26 1 (.ref r :: L) (.ref r :: st) μ Q := e_aload_n (by decide +kernel : decode (bOf 26) 0 = .ok (.aload_n 0, 1)) rfl
theorem x_26_1 : Ev d 26 1 (a0 :: .int x :: L) st μ Q = Ev d 26 2 (a0 :: .int x :: L) (.int x :: st) μ Q := e_iload_n (by decide +kernel : decode (bOf 26) 1 = .ok (.iload_n 1, 1)) rfl
theorem x_26_2 : Ev d 26 2 (.ref r :: L) st μ Q = Ev d 26 3 (.ref r :: L) (.ref r :: st) μ Q := e_aload_n (by decide +kernel : decode (bOf 26) 2 = .ok (.aload_n 0, 1)) rfl
theorem x_26_3 (h : kd t r = 2) : Ev d 26 3 L (.ref r :: st) (t, V, A, P) Q = Ev d 26 6 L (V r 2 :: st) (t, V, A, P) Q := e_getf (by decide +kernel : decode (bOf 26) 3 = .ok (.getfield 18, 3)) (by decide +kernel) (by decide +kernel) h
theorem x_26_6 : Ev d 26 6 L (.int y :: .int x :: st) μ Q = if x = y then Ev d 26 9 L st μ Q else Ev d 26 18 L st μ Q := e_icmp_ne (by decide +kernel : decode (bOf 26) 6 = .ok (.if_icmp .ne 12, 3)) (by omega)
theorem x_26_9 : Ev d 26 9 (.ref r :: L) st μ Q = Ev d 26 10 (.ref r :: L) (.ref r :: st) μ Q := e_aload_n (by decide +kernel : decode (bOf 26) 9 = .ok (.aload_n 0, 1)) rfl
theorem x_26_10 (h : kd t r = 2) : Ev d 26 10 L (.ref r :: st) (t, V, A, P) Q = Ev d 26 13 L (V r 3 :: st) (t, V, A, P) Q := e_getf (by decide +kernel : decode (bOf 26) 10 = .ok (.getfield 21, 3)) (by decide +kernel) (by decide +kernel) h
theorem x_26_13 : Ev d 26 13 L st μ Q = Ev d 26 14 L (.int (iI 1) :: st) μ Q := e_iconst (by decide +kernel : decode (bOf 26) 13 = .ok (.iconst 1, 1))
theorem x_26_14 : Ev d 26 14 L (.int y :: .int x :: st) μ Q = Ev d 26 15 L (.int (x + y) :: st) μ Q := e_iadd (by decide +kernel : decode (bOf 26) 14 = .ok (.iadd, 1))
theorem x_26_15 : Ev d 26 15 L st μ Q = Ev d 26 19 L st μ Q := e_goto (by decide +kernel : decode (bOf 26) 15 = .ok (.goto 4, 3)) (by omega)
theorem x_26_18 : Ev d 26 18 L st μ Q = Ev d 26 19 L (.int (iI 1) :: st) μ Q := e_iconst (by decide +kernel : decode (bOf 26) 18 = .ok (.iconst 1, 1))
theorem x_26_19 (h : kd t r = 2) : Ev d 26 19 L (.int x :: .ref r :: st) (t, V, A, P) Q = Ev d 26 22 L st (t, up1 V r (up1 (V r) 3 (.int x)), A, P) Q := e_putf (by decide +kernel : decode (bOf 26) 19 = .ok (.putfield 21, 3)) (by decide +kernel) (by decide +kernel) rfl h
theorem x_26_22 : Ev d 26 22 (.ref r :: L) st μ Q = Ev d 26 23 (.ref r :: L) (.ref r :: st) μ Q := e_aload_n (by decide +kernel : decode (bOf 26) 22 = .ok (.aload_n 0, 1)) rfl
theorem x_26_23 : Ev d 26 23 (a0 :: .int x :: L) st μ Q = Ev d 26 24 (a0 :: .int x :: L) (.int x :: st) μ Q := e_iload_n (by decide +kernel : decode (bOf 26) 23 = .ok (.iload_n 1, 1)) rfl
theorem x_26_24 (h : kd t r = 2) : Ev d 26 24 L (.int x :: .ref r :: st) (t, V, A, P) Q = Ev d 26 27 L st (t, up1 V r (up1 (V r) 2 (.int x)), A, P) Q := e_putf (by decide +kernel : decode (bOf 26) 24 = .ok (.putfield 18, 3)) (by decide +kernel) (by decide +kernel) rfl h
theorem x_26_27 : Ev d 26 27 (.ref r :: L) st μ Q = Ev d 26 28 (.ref r :: L) (.ref r :: st) μ Q := e_aload_n (by decide +kernel : decode (bOf 26) 27 = .ok (.aload_n 0, 1)) rfl
theorem x_26_28 : Ev d 26 28 L (.ref r :: st) μ Q = Ev d 26 29 L (.ref r :: .ref r :: st) μ Q := e_dup_a (by decide +kernel : decode (bOf 26) 28 = .ok (.dup, 1))
theorem x_26_29 (h : kd t r = 2) : Ev d 26 29 L (.ref r :: st) (t, V, A, P) Q = Ev d 26 32 L (V r 1 :: st) (t, V, A, P) Q := e_getf (by decide +kernel : decode (bOf 26) 29 = .ok (.getfield 15, 3)) (by decide +kernel) (by decide +kernel) h
theorem x_26_32 : Ev d 26 32 (a0 :: .int x :: L) st μ Q = Ev d 26 33 (a0 :: .int x :: L) (.int x :: st) μ Q := e_iload_n (by decide +kernel : decode (bOf 26) 32 = .ok (.iload_n 1, 1)) rfl
theorem x_26_33 : Ev d 26 33 L st μ Q = Ev d 26 34 L (.int (iI 1) :: st) μ Q := e_iconst (by decide +kernel : decode (bOf 26) 33 = .ok (.iconst 1, 1))
theorem x_26_34 : Ev d 26 34 L (.int y :: .int x :: st) μ Q = if x = y then Ev d 26 37 L st μ Q else Ev d 26 41 L st μ Q := e_icmp_ne (by decide +kernel : decode (bOf 26) 34 = .ok (.if_icmp .ne 7, 3)) (by omega)
theorem x_26_37 : Ev d 26 37 L st μ Q = Ev d 26 38 L (.int (iI 1) :: st) μ Q := e_iconst (by decide +kernel : decode (bOf 26) 37 = .ok (.iconst 1, 1))
theorem x_26_38 : Ev d 26 38 L st μ Q = Ev d 26 42 L st μ Q := e_goto (by decide +kernel : decode (bOf 26) 38 = .ok (.goto 4, 3)) (by omega)
theorem x_26_41 : Ev d 26 41 L st μ Q = Ev d 26 42 L (.int (iI (-1)) :: st) μ Q := e_iconst (by decide +kernel : decode (bOf 26) 41 = .ok (.iconst (-1), 1))
theorem x_26_42 : Ev d 26 42 L (.int y :: .int x :: st) μ Q = Ev d 26 43 L (.int (x + y) :: st) μ Q := e_iadd (by decide +kernel : decode (bOf 26) 42 = .ok (.iadd, 1))
theorem x_26_43 (h : kd t r = 2) : Ev d 26 43 L (.int x :: .ref r :: st) (t, V, A, P) Q = Ev d 26 46 L st (t, up1 V r (up1 (V r) 1 (.int x)), A, P) Q := e_putf (by decide +kernel : decode (bOf 26) 43 = .ok (.putfield 15, 3)) (by decide +kernel) (by decide +kernel) rfl h
theorem x_26_46 : Ev d 26 46 (.ref r :: L) st μ Q = Ev d 26 47 (.ref r :: L) (.ref r :: st) μ Q := e_aload_n (by decide +kernel : decode (bOf 26) 46 = .ok (.aload_n 0, 1)) rfl
theorem x_26_47 : Ev d 26 47 (.ref r :: L) st μ Q = Ev d 26 48 (.ref r :: L) (.ref r :: st) μ Q := e_aload_n (by decide +kernel : decode (bOf 26) 47 = .ok (.aload_n 0, 1)) rfl
theorem x_26_48 (h : kd t r = 2) : Ev d 26 48 L (.ref r :: st) (t, V, A, P) Q = Ev d 26 51 L (V r 4 :: st) (t, V, A, P) Q := e_getf (by decide +kernel : decode (bOf 26) 48 = .ok (.getfield 24, 3)) (by decide +kernel) (by decide +kernel) h
theorem x_26_51 : Ev d 26 51 (.ref r :: L) st μ Q = Ev d 26 52 (.ref r :: L) (.ref r :: st) μ Q := e_aload_n (by decide +kernel : decode (bOf 26) 51 = .ok (.aload_n 0, 1)) rfl
theorem x_26_52 (h : kd t r = 2) : Ev d 26 52 L (.ref r :: st) (t, V, A, P) Q = Ev d 26 55 L (V r 3 :: st) (t, V, A, P) Q := e_getf (by decide +kernel : decode (bOf 26) 52 = .ok (.getfield 21, 3)) (by decide +kernel) (by decide +kernel) h
theorem x_26_55 : Ev d 26 55 L [b1, b0, s0] μ Q = Call d 131 [b0, b1] μ (fun v μ1 => Ev d 26 58 L (v.toList ++ [s0]) μ1 Q) := e_callS (a := [b0, b1]) (r := [s0]) (by decide +kernel : decode (bOf 26) 55 = .ok (.invokestatic 27, 3)) (by decide +kernel) (by decide +kernel) rfl (by simp)
theorem x_26_58 (h : kd t r = 2) : Ev d 26 58 L (.int x :: .ref r :: st) (t, V, A, P) Q = Ev d 26 61 L st (t, up1 V r (up1 (V r) 4 (.int x)), A, P) Q := e_putf (by decide +kernel : decode (bOf 26) 58 = .ok (.putfield 24, 3)) (by decide +kernel) (by decide +kernel) rfl h
theorem x_26_61 : Ev d 26 61 L [] μ Q = Q none μ := e_ret (by decide +kernel : decode (bOf 26) 61 = .ok (.return_, 1)) (by decide +kernel)
theorem c_27 : Call (d + 1) 27 [a0, a1] μ Q = Ev d 27 0 [a0, a1, .null, .null] [] μ Q := call_ev rfl
theorem x_27_0 : Ev d 27 0 (.ref r :: L) st μ Q = Ev d 27 1 (.ref r :: L) (.ref r :: st) μ Q := e_aload_n (by decide +kernel : decode (bOf 27) 0 = .ok (.aload_n 0, 1)) rfl
theorem x_27_1 : Ev d 27 1 (a0 :: .int x :: L) st μ Q = Ev d 27 2 (a0 :: .int x :: L) (.int x :: st) μ Q := e_iload_n (by decide +kernel : decode (bOf 27) 1 = .ok (.iload_n 1, 1)) rfl
theorem x_27_2 (h : kd t r = 2) : Ev d 27 2 L [b0, .ref r] (t, V, A, P) Q = Call d 28 [.ref r, b0] (t, V, A, P) (fun v μ1 => Ev d 27 5 L (v.toList ++ []) μ1 Q) := e_callV (a := [b0]) (r := []) (by decide +kernel : decode (bOf 27) 2 = .ok (.invokevirtual 33, 3)) (by decide +kernel) (by decide +kernel) (by decide +kernel) rfl (by simp) (by decide +kernel) h
theorem x_27_5 (h : a1.category = 1) : Ev d 27 5 (a0 :: a1 :: a2 :: L) (.int x :: st) μ Q = Ev d 27 6 (a0 :: a1 :: .int x :: L) st μ Q := e_istore_n (by decide +kernel : decode (bOf 27) 5 = .ok (.istore_n 2, 1)) (by simp [stOK, h])
theorem x_27_6 : Ev d 27 6 L st μ Q = Ev d 27 7 L (.int (iI 5) :: st) μ Q := e_iconst (by decide +kernel : decode (bOf 27) 6 = .ok (.iconst 5, 1))
theorem x_27_7 (h : a2.category = 1) : Ev d 27 7 (a0 :: a1 :: a2 :: a3 :: L) (.int x :: st) μ Q = Ev d 27 8 (a0 :: a1 :: a2 :: .int x :: L) st μ Q := e_istore_n (by decide +kernel : decode (bOf 27) 7 = .ok (.istore_n 3, 1)) (by simp [stOK, h])
theorem x_27_8 : Ev d 27 8 (a0 :: a1 :: a2 :: .int x :: L) st μ Q = Ev d 27 9 (a0 :: a1 :: a2 :: .int x :: L) (.int x :: st) μ Q := e_iload_n (by decide +kernel : decode (bOf 27) 8 = .ok (.iload_n 3, 1)) rfl
theorem x_27_9 : Ev d 27 9 L (.int x :: st) μ Q = if x < iI 0 then Ev d 27 62 L st μ Q else Ev d 27 12 L st μ Q := e_if_lt (by decide +kernel : decode (bOf 27) 9 = .ok (.ifCond .lt 53, 3)) (by omega)
theorem x_27_12 : Ev d 27 12 (.ref r :: L) st μ Q = Ev d 27 13 (.ref r :: L) (.ref r :: st) μ Q := e_aload_n (by decide +kernel : decode (bOf 27) 12 = .ok (.aload_n 0, 1)) rfl
theorem x_27_13 : Ev d 27 13 (a0 :: .int x :: L) st μ Q = Ev d 27 14 (a0 :: .int x :: L) (.int x :: st) μ Q := e_iload_n (by decide +kernel : decode (bOf 27) 13 = .ok (.iload_n 1, 1)) rfl
theorem x_27_14 : Ev d 27 14 (a0 :: a1 :: a2 :: .int x :: L) st μ Q = Ev d 27 15 (a0 :: a1 :: a2 :: .int x :: L) (.int x :: st) μ Q := e_iload_n (by decide +kernel : decode (bOf 27) 14 = .ok (.iload_n 3, 1)) rfl
theorem x_27_15 : Ev d 27 15 L (.int y :: .int x :: st) μ Q = Ev d 27 16 L (.int (x >>> (y &&& 31)) :: st) μ Q := e_ishr (by decide +kernel : decode (bOf 27) 15 = .ok (.ishr, 1))
theorem x_27_16 : Ev d 27 16 L st μ Q = Ev d 27 17 L (.int (iI 1) :: st) μ Q := e_iconst (by decide +kernel : decode (bOf 27) 16 = .ok (.iconst 1, 1))
theorem x_27_17 : Ev d 27 17 L (.int y :: .int x :: st) μ Q = Ev d 27 18 L (.int (x &&& y) :: st) μ Q := e_iand (by decide +kernel : decode (bOf 27) 17 = .ok (.iand, 1))
theorem x_27_18 (h : kd t r = 2) : Ev d 27 18 L [b0, .ref r] (t, V, A, P) Q = Call d 26 [.ref r, b0] (t, V, A, P) (fun v μ1 => Ev d 27 21 L (v.toList ++ []) μ1 Q) := e_callV (a := [b0]) (r := []) (by decide +kernel : decode (bOf 27) 18 = .ok (.invokevirtual 37, 3)) (by decide +kernel) (by decide +kernel) (by decide +kernel) rfl (by simp) (by decide +kernel) h
theorem x_27_21 : Ev d 27 21 (.ref r :: L) st μ Q = Ev d 27 22 (.ref r :: L) (.ref r :: st) μ Q := e_aload_n (by decide +kernel : decode (bOf 27) 21 = .ok (.aload_n 0, 1)) rfl
theorem x_27_22 (h : kd t r = 2) : Ev d 27 22 L (.ref r :: st) (t, V, A, P) Q = Ev d 27 25 L (V r 3 :: st) (t, V, A, P) Q := e_getf (by decide +kernel : decode (bOf 27) 22 = .ok (.getfield 21, 3)) (by decide +kernel) (by decide +kernel) h
theorem x_27_25 : Ev d 27 25 L st μ Q = Ev d 27 27 L (.int (iI 6) :: st) μ Q := e_bipush (by decide +kernel : decode (bOf 27) 25 = .ok (.bipush 6, 2)) (by decide +kernel)
theorem x_27_27 : Ev d 27 27 L (.int y :: .int x :: st) μ Q = if y < x then Ev d 27 30 L st μ Q else Ev d 27 34 L st μ Q := e_icmp_le (by decide +kernel : decode (bOf 27) 27 = .ok (.if_icmp .le 7, 3)) (by omega)
theorem x_27_30 : Ev d 27 30 (a0 :: a1 :: .int x :: L) st μ Q = Ev d 27 31 (a0 :: a1 :: .int x :: L) (.int x :: st) μ Q := e_iload_n (by decide +kernel : decode (bOf 27) 30 = .ok (.iload_n 2, 1)) rfl
theorem x_27_31 : Ev d 27 31 L st μ Q = Ev d 27 32 L (.int (iI 4) :: st) μ Q := e_iconst (by decide +kernel : decode (bOf 27) 31 = .ok (.iconst 4, 1))
theorem x_27_32 : Ev d 27 32 L (.int y :: .int x :: st) μ Q = Ev d 27 33 L (.int (x ||| y) :: st) μ Q := e_ior (by decide +kernel : decode (bOf 27) 32 = .ok (.ior, 1))
theorem x_27_33 (h : a1.category = 1) : Ev d 27 33 (a0 :: a1 :: a2 :: L) (.int x :: st) μ Q = Ev d 27 34 (a0 :: a1 :: .int x :: L) st μ Q := e_istore_n (by decide +kernel : decode (bOf 27) 33 = .ok (.istore_n 2, 1)) (by simp [stOK, h])
theorem x_27_34 : Ev d 27 34 (.ref r :: L) st μ Q = Ev d 27 35 (.ref r :: L) (.ref r :: st) μ Q := e_aload_n (by decide +kernel : decode (bOf 27) 34 = .ok (.aload_n 0, 1)) rfl
theorem x_27_35 (h : kd t r = 2) : Ev d 27 35 L (.ref r :: st) (t, V, A, P) Q = Ev d 27 38 L (V r 1 :: st) (t, V, A, P) Q := e_getf (by decide +kernel : decode (bOf 27) 35 = .ok (.getfield 15, 3)) (by decide +kernel) (by decide +kernel) h
theorem x_27_38 : Ev d 27 38 L st μ Q = Ev d 27 39 L (.int (iI 3) :: st) μ Q := e_iconst (by decide +kernel : decode (bOf 27) 38 = .ok (.iconst 3, 1))
theorem x_27_39 : Ev d 27 39 L (.int y :: .int x :: st) μ Q = if y < x then Ev d 27 51 L st μ Q else Ev d 27 42 L st μ Q := e_icmp_gt (by decide +kernel : decode (bOf 27) 39 = .ok (.if_icmp .gt 12, 3)) (by omega)
theorem x_27_42 : Ev d 27 42 (.ref r :: L) st μ Q = Ev d 27 43 (.ref r :: L) (.ref r :: st) μ Q := e_aload_n (by decide +kernel : decode (bOf 27) 42 = .ok (.aload_n 0, 1)) rfl
theorem x_27_43 (h : kd t r = 2) : Ev d 27 43 L (.ref r :: st) (t, V, A, P) Q = Ev d 27 46 L (V r 1 :: st) (t, V, A, P) Q := e_getf (by decide +kernel : decode (bOf 27) 43 = .ok (.getfield 15, 3)) (by decide +kernel) (by decide +kernel) h
theorem x_27_46 : Ev d 27 46 L st μ Q = Ev d 27 48 L (.int (iI (-3)) :: st) μ Q := e_bipush (by decide +kernel : decode (bOf 27) 46 = .ok (.bipush (-3), 2)) (by decide +kernel)
theorem x_27_48 : Ev d 27 48 L (.int y :: .int x :: st) μ Q = if x < y then Ev d 27 51 L st μ Q else Ev d 27 56 L st μ Q := e_icmp_ge (by decide +kernel : decode (bOf 27) 48 = .ok (.if_icmp .ge 8, 3)) (by omega)
theorem x_27_51 : Ev d 27 51 (a0 :: a1 :: .int x :: L) st μ Q = Ev d 27 52 (a0 :: a1 :: .int x :: L) (.int x :: st) μ Q := e_iload_n (by decide +kernel : decode (bOf 27) 51 = .ok (.iload_n 2, 1)) rfl
theorem x_27_52 : Ev d 27 52 L st μ Q = Ev d 27 54 L (.int (iI 8) :: st) μ Q := e_bipush (by decide +kernel : decode (bOf 27) 52 = .ok (.bipush 8, 2)) (by decide +kernel)
theorem x_27_54 : Ev d 27 54 L (.int y :: .int x :: st) μ Q = Ev d 27 55 L (.int (x ||| y) :: st) μ Q := e_ior (by decide +kernel : decode (bOf 27) 54 = .ok (.ior, 1))
theorem x_27_55 (h : a1.category = 1) : Ev d 27 55 (a0 :: a1 :: a2 :: L) (.int x :: st) μ Q = Ev d 27 56 (a0 :: a1 :: .int x :: L) st μ Q := e_istore_n (by decide +kernel : decode (bOf 27) 55 = .ok (.istore_n 2, 1)) (by simp [stOK, h])
theorem x_27_56 (h : a2.category = 1) : Ev d 27 56 (a0 :: a1 :: a2 :: .int x :: L) st μ Q = Ev d 27 59 (a0 :: a1 :: a2 :: .int (x + (iI (-1))) :: L) st μ Q := e_iinc (by decide +kernel : decode (bOf 27) 56 = .ok (.iinc 3 (-1), 3)) rfl (by simp [stOK, h])
theorem x_27_59 : Ev d 27 59 L st μ Q = Ev d 27 8 L st μ Q := e_goto (by decide +kernel : decode (bOf 27) 59 = .ok (.goto (-51), 3)) (by omega)
theorem x_27_62 : Ev d 27 62 (.ref r :: L) st μ Q = Ev d 27 63 (.ref r :: L) (.ref r :: st) μ Q := e_aload_n (by decide +kernel : decode (bOf 27) 62 = .ok (.aload_n 0, 1)) rfl
theorem x_27_63 : Ev d 27 63 (a0 :: .int x :: L) st μ Q = Ev d 27 64 (a0 :: .int x :: L) (.int x :: st) μ Q := e_iload_n (by decide +kernel : decode (bOf 27) 63 = .ok (.iload_n 1, 1)) rfl
theorem x_27_64 : Ev d 27 64 (.ref r :: L) st μ Q = Ev d 27 65 (.ref r :: L) (.ref r :: st) μ Q := e_aload_n (by decide +kernel : decode (bOf 27) 64 = .ok (.aload_n 0, 1)) rfl
theorem x_27_65 (h : kd t r = 2) : Ev d 27 65 L (.ref r :: st) (t, V, A, P) Q = Ev d 27 68 L (V r 0 :: st) (t, V, A, P) Q := e_getf (by decide +kernel : decode (bOf 27) 65 = .ok (.getfield 9, 3)) (by decide +kernel) (by decide +kernel) h
theorem x_27_68 : Ev d 27 68 L [b1, b0, s0] μ Q = Call d 6 [b0, b1] μ (fun v μ1 => Ev d 27 71 L (v.toList ++ [s0]) μ1 Q) := e_callS (a := [b0, b1]) (r := [s0]) (by decide +kernel : decode (bOf 27) 68 = .ok (.invokestatic 41, 3)) (by decide +kernel) (by decide +kernel) rfl (by simp)
theorem x_27_71 (h : kd t r = 2) : Ev d 27 71 L (.int x :: .ref r :: st) (t, V, A, P) Q = Ev d 27 74 L st (t, up1 V r (up1 (V r) 0 (.int x)), A, P) Q := e_putf (by decide +kernel : decode (bOf 27) 71 = .ok (.putfield 9, 3)) (by decide +kernel) (by decide +kernel) rfl h
theorem x_27_74 : Ev d 27 74 (a0 :: a1 :: .int x :: L) st μ Q = Ev d 27 75 (a0 :: a1 :: .int x :: L) (.int x :: st) μ Q := e_iload_n (by decide +kernel : decode (bOf 27) 74 = .ok (.iload_n 2, 1)) rfl
theorem x_27_75 : Ev d 27 75 L [.int x] μ Q = Q (some (.int x)) μ := e_iret (by decide +kernel : decode (bOf 27) 75 = .ok (.ireturn, 1)) (by decide +kernel)
theorem c_28 : Call (d + 1) 28 [a0, a1] μ Q = Ev d 28 0 [a0, a1] [] μ Q := call_ev rfl
theorem x_28_0 : Ev d 28 0 (a0 :: .int x :: L) st μ Q = Ev d 28 1 (a0 :: .int x :: L) (.int x :: st) μ Q := e_iload_n (by decide +kernel : decode (bOf 28) 0 = .ok (.iload_n 1, 1)) rfl
theorem x_28_1 : Ev d 28 1 L [b0] μ Q = Call d 4 [b0] μ (fun v μ1 => Ev d 28 4 L (v.toList ++ []) μ1 Q) := e_callS (a := [b0]) (r := []) (by decide +kernel : decode (bOf 28) 1 = .ok (.invokestatic 46, 3)) (by decide +kernel) (by decide +kernel) rfl (by simp)
theorem x_28_4 : Ev d 28 4 L st μ Q = Ev d 28 6 L (.int (iI (-9)) :: st) μ Q := e_bipush (by decide +kernel : decode (bOf 28) 4 = .ok (.bipush (-9), 2)) (by decide +kernel)
theorem x_28_6 : Ev d 28 6 L (.int y :: .int x :: st) μ Q = if x = y then Ev d 28 9 L st μ Q else Ev d 28 11 L st μ Q := e_icmp_ne (by decide +kernel : decode (bOf 28) 6 = .ok (.if_icmp .ne 5, 3)) (by omega)
theorem x_28_9 : Ev d 28 9 L st μ Q = Ev d 28 10 L (.int (iI 1) :: st) μ Q := e_iconst (by decide +kernel : decode (bOf 28) 9 = .ok (.iconst 1, 1))
theorem x_28_10 : Ev d 28 10 L [.int x] μ Q = Q (some (.int x)) μ := e_iret (by decide +kernel : decode (bOf 28) 10 = .ok (.ireturn, 1)) (by decide +kernel)
theorem x_28_11 : Ev d 28 11 (a0 :: .int x :: L) st μ Q = Ev d 28 12 (a0 :: .int x :: L) (.int x :: st) μ Q := e_iload_n (by decide +kernel : decode (bOf 28) 11 = .ok (.iload_n 1, 1)) rfl
theorem x_28_12 : Ev d 28 12 (.ref r :: L) st μ Q = Ev d 28 13 (.ref r :: L) (.ref r :: st) μ Q := e_aload_n (by decide +kernel : decode (bOf 28) 12 = .ok (.aload_n 0, 1)) rfl
theorem x_28_13 (h : kd t r = 2) : Ev d 28 13 L (.ref r :: st) (t, V, A, P) Q = Ev d 28 16 L (V r 0 :: st) (t, V, A, P) Q := e_getf (by decide +kernel : decode (bOf 28) 13 = .ok (.getfield 9, 3)) (by decide +kernel) (by decide +kernel) h
theorem x_28_16 : Ev d 28 16 L [b1, b0] μ Q = Call d 5 [b0, b1] μ (fun v μ1 => Ev d 28 19 L (v.toList ++ []) μ1 Q) := e_callS (a := [b0, b1]) (r := []) (by decide +kernel : decode (bOf 28) 16 = .ok (.invokestatic 49, 3)) (by decide +kernel) (by decide +kernel) rfl (by simp)
theorem x_28_19 : Ev d 28 19 L (.int x :: st) μ Q = if x = iI 0 then Ev d 28 26 L st μ Q else Ev d 28 22 L st μ Q := e_if_eq (by decide +kernel : decode (bOf 28) 19 = .ok (.ifCond .eq 7, 3)) (by omega)
theorem x_28_22 : Ev d 28 22 L st μ Q = Ev d 28 23 L (.int (iI 0) :: st) μ Q := e_iconst (by decide +kernel : decode (bOf 28) 22 = .ok (.iconst 0, 1))
theorem x_28_23 : Ev d 28 23 L st μ Q = Ev d 28 27 L st μ Q := e_goto (by decide +kernel : decode (bOf 28) 23 = .ok (.goto 4, 3)) (by omega)
theorem x_28_26 : Ev d 28 26 L st μ Q = Ev d 28 27 L (.int (iI 2) :: st) μ Q := e_iconst (by decide +kernel : decode (bOf 28) 26 = .ok (.iconst 2, 1))
theorem x_28_27 : Ev d 28 27 L [.int x] μ Q = Q (some (.int x)) μ := e_iret (by decide +kernel : decode (bOf 28) 27 = .ok (.ireturn, 1)) (by decide +kernel)
theorem c_29 : Call (d + 1) 29 [a0] μ Q = Ev d 29 0 [a0] [] μ Q := call_ev rfl
theorem x_29_0 : Ev d 29 0 (.ref r :: L) st μ Q = Ev d 29 1 (.ref r :: L) (.ref r :: st) μ Q := e_aload_n (by decide +kernel : decode (bOf 29) 0 = .ok (.aload_n 0, 1)) rfl
theorem x_29_1 : Ev d 29 1 L (.ref r :: st) μ Q = Ev d 29 4 L st μ Q := e_obj (by decide +kernel : decode (bOf 29) 1 = .ok (.invokespecial 3, 3)) (by decide +kernel) (by decide +kernel)
theorem x_29_4 : Ev d 29 4 (.ref r :: L) st μ Q = Ev d 29 5 (.ref r :: L) (.ref r :: st) μ Q := e_aload_n (by decide +kernel : decode (bOf 29) 4 = .ok (.aload_n 0, 1)) rfl
theorem x_29_5 : Ev d 29 5 L st μ Q = Ev d 29 7 L (.int (iI 32) :: st) μ Q := e_bipush (by decide +kernel : decode (bOf 29) 5 = .ok (.bipush 32, 2)) (by decide +kernel)
theorem x_29_7 : Ev d 29 7 L (.int (iI 32) :: st) ((N, S, K), V, A, P) Q = Ev d 29 9 L (.ref N :: st) ((N + 1, S + 32, up1 K N (6, 32)), V, up1 A N (fun _ => 0), P) Q := e_newi 32 (by decide +kernel : decode (bOf 29) 7 = .ok (.newarray .int, 2)) (by decide +kernel) (by decide +kernel)
theorem x_29_9 (h : kd t r = 3) : Ev d 29 9 L (.ref q :: .ref r :: st) (t, V, A, P) Q = Ev d 29 12 L st (t, up1 V r (up1 (V r) 0 (.ref q)), A, P) Q := e_putf (by decide +kernel : decode (bOf 29) 9 = .ok (.putfield 9, 3)) (by decide +kernel) (by decide +kernel) rfl h
theorem x_29_12 : Ev d 29 12 (.ref r :: L) st μ Q = Ev d 29 13 (.ref r :: L) (.ref r :: st) μ Q := e_aload_n (by decide +kernel : decode (bOf 29) 12 = .ok (.aload_n 0, 1)) rfl
theorem x_29_13 : Ev d 29 13 L st μ Q = Ev d 29 15 L (.int (iI 32) :: st) μ Q := e_bipush (by decide +kernel : decode (bOf 29) 13 = .ok (.bipush 32, 2)) (by decide +kernel)
theorem x_29_15 : Ev d 29 15 L (.int (iI 32) :: st) ((N, S, K), V, A, P) Q = Ev d 29 17 L (.ref N :: st) ((N + 1, S + 32, up1 K N (6, 32)), V, up1 A N (fun _ => 0), P) Q := e_newi 32 (by decide +kernel : decode (bOf 29) 15 = .ok (.newarray .int, 2)) (by decide +kernel) (by decide +kernel)
theorem x_29_17 (h : kd t r = 3) : Ev d 29 17 L (.ref q :: .ref r :: st) (t, V, A, P) Q = Ev d 29 20 L st (t, up1 V r (up1 (V r) 1 (.ref q)), A, P) Q := e_putf (by decide +kernel : decode (bOf 29) 17 = .ok (.putfield 15, 3)) (by decide +kernel) (by decide +kernel) rfl h
theorem x_29_20 : Ev d 29 20 (.ref r :: L) st μ Q = Ev d 29 21 (.ref r :: L) (.ref r :: st) μ Q := e_aload_n (by decide +kernel : decode (bOf 29) 20 = .ok (.aload_n 0, 1)) rfl
theorem x_29_21 : Ev d 29 21 L st μ Q = Ev d 29 23 L (.int (iI 32) :: st) μ Q := e_bipush (by decide +kernel : decode (bOf 29) 21 = .ok (.bipush 32, 2)) (by decide +kernel)
theorem x_29_23 : Ev d 29 23 L (.int (iI 32) :: st) ((N, S, K), V, A, P) Q = Ev d 29 25 L (.ref N :: st) ((N + 1, S + 32, up1 K N (6, 32)), V, up1 A N (fun _ => 0), P) Q := e_newi 32 (by decide +kernel : decode (bOf 29) 23 = .ok (.newarray .int, 2)) (by decide +kernel) (by decide +kernel)
theorem x_29_25 (h : kd t r = 3) : Ev d 29 25 L (.ref q :: .ref r :: st) (t, V, A, P) Q = Ev d 29 28 L st (t, up1 V r (up1 (V r) 2 (.ref q)), A, P) Q := e_putf (by decide +kernel : decode (bOf 29) 25 = .ok (.putfield 18, 3)) (by decide +kernel) (by decide +kernel) rfl h
theorem x_29_28 : Ev d 29 28 (.ref r :: L) st μ Q = Ev d 29 29 (.ref r :: L) (.ref r :: st) μ Q := e_aload_n (by decide +kernel : decode (bOf 29) 28 = .ok (.aload_n 0, 1)) rfl
theorem x_29_29 : Ev d 29 29 L st μ Q = Ev d 29 30 L (.int (iI 0) :: st) μ Q := e_iconst (by decide +kernel : decode (bOf 29) 29 = .ok (.iconst 0, 1))
theorem x_29_30 (h : kd t r = 3) : Ev d 29 30 L (.int x :: .ref r :: st) (t, V, A, P) Q = Ev d 29 33 L st (t, up1 V r (up1 (V r) 3 (.int x)), A, P) Q := e_putf (by decide +kernel : decode (bOf 29) 30 = .ok (.putfield 21, 3)) (by decide +kernel) (by decide +kernel) rfl h
theorem x_29_33 : Ev d 29 33 (.ref r :: L) st μ Q = Ev d 29 34 (.ref r :: L) (.ref r :: st) μ Q := e_aload_n (by decide +kernel : decode (bOf 29) 33 = .ok (.aload_n 0, 1)) rfl
theorem x_29_34 : Ev d 29 34 L st μ Q = Ev d 29 35 L (.int (iI (-1)) :: st) μ Q := e_iconst (by decide +kernel : decode (bOf 29) 34 = .ok (.iconst (-1), 1))
theorem x_29_35 (h : kd t r = 3) : Ev d 29 35 L (.int x :: .ref r :: st) (t, V, A, P) Q = Ev d 29 38 L st (t, up1 V r (up1 (V r) 4 (.int x)), A, P) Q := e_putf (by decide +kernel : decode (bOf 29) 35 = .ok (.putfield 25, 3)) (by decide +kernel) (by decide +kernel) rfl h
theorem x_29_38 : Ev d 29 38 (.ref r :: L) st μ Q = Ev d 29 39 (.ref r :: L) (.ref r :: st) μ Q := e_aload_n (by decide +kernel : decode (bOf 29) 38 = .ok (.aload_n 0, 1)) rfl
theorem x_29_39 : Ev d 29 39 L st μ Q = Ev d 29 41 L (.int (iI (-9)) :: st) μ Q := e_bipush (by decide +kernel : decode (bOf 29) 39 = .ok (.bipush (-9), 2)) (by decide +kernel)
theorem x_29_41 (h : kd t r = 3) : Ev d 29 41 L (.int x :: .ref r :: st) (t, V, A, P) Q = Ev d 29 44 L st (t, up1 V r (up1 (V r) 5 (.int x)), A, P) Q := e_putf (by decide +kernel : decode (bOf 29) 41 = .ok (.putfield 28, 3)) (by decide +kernel) (by decide +kernel) rfl h
theorem x_29_44 : Ev d 29 44 (.ref r :: L) st μ Q = Ev d 29 45 (.ref r :: L) (.ref r :: st) μ Q := e_aload_n (by decide +kernel : decode (bOf 29) 44 = .ok (.aload_n 0, 1)) rfl
theorem x_29_45 : Ev d 29 45 L st μ Q = Ev d 29 47 L (.int (iI (-9)) :: st) μ Q := e_bipush (by decide +kernel : decode (bOf 29) 45 = .ok (.bipush (-9), 2)) (by decide +kernel)
theorem x_29_47 (h : kd t r = 3) : Ev d 29 47 L (.int x :: .ref r :: st) (t, V, A, P) Q = Ev d 29 50 L st (t, up1 V r (up1 (V r) 6 (.int x)), A, P) Q := e_putf (by decide +kernel : decode (bOf 29) 47 = .ok (.putfield 31, 3)) (by decide +kernel) (by decide +kernel) rfl h
theorem x_29_50 : Ev d 29 50 L [] μ Q = Q none μ := e_ret (by decide +kernel : decode (bOf 29) 50 = .ok (.return_, 1)) (by decide +kernel)
theorem c_30 : Call (d + 1) 30 [a0] μ Q = Ev d 30 0 [a0] [] μ Q := call_ev rfl
theorem x_30_0 : Ev d 30 0 (.ref r :: L) st μ Q = Ev d 30 1 (.ref r :: L) (.ref r :: st) μ Q := e_aload_n (by decide +kernel : decode (bOf 30) 0 = .ok (.aload_n 0, 1)) rfl
theorem x_30_1 : Ev d 30 1 L st μ Q = Ev d 30 2 L (.int (iI 0) :: st) μ Q := e_iconst (by decide +kernel : decode (bOf 30) 1 = .ok (.iconst 0, 1))
theorem x_30_2 (h : kd t r = 3) : Ev d 30 2 L (.int x :: .ref r :: st) (t, V, A, P) Q = Ev d 30 5 L st (t, up1 V r (up1 (V r) 3 (.int x)), A, P) Q := e_putf (by decide +kernel : decode (bOf 30) 2 = .ok (.putfield 21, 3)) (by decide +kernel) (by decide +kernel) rfl h
theorem x_30_5 : Ev d 30 5 (.ref r :: L) st μ Q = Ev d 30 6 (.ref r :: L) (.ref r :: st) μ Q := e_aload_n (by decide +kernel : decode (bOf 30) 5 = .ok (.aload_n 0, 1)) rfl
theorem x_30_6 : Ev d 30 6 L st μ Q = Ev d 30 7 L (.int (iI (-1)) :: st) μ Q := e_iconst (by decide +kernel : decode (bOf 30) 6 = .ok (.iconst (-1), 1))
theorem x_30_7 (h : kd t r = 3) : Ev d 30 7 L (.int x :: .ref r :: st) (t, V, A, P) Q = Ev d 30 10 L st (t, up1 V r (up1 (V r) 4 (.int x)), A, P) Q := e_putf (by decide +kernel : decode (bOf 30) 7 = .ok (.putfield 25, 3)) (by decide +kernel) (by decide +kernel) rfl h
theorem x_30_10 : Ev d 30 10 (.ref r :: L) st μ Q = Ev d 30 11 (.ref r :: L) (.ref r :: st) μ Q := e_aload_n (by decide +kernel : decode (bOf 30) 10 = .ok (.aload_n 0, 1)) rfl
theorem x_30_11 : Ev d 30 11 L st μ Q = Ev d 30 13 L (.int (iI (-9)) :: st) μ Q := e_bipush (by decide +kernel : decode (bOf 30) 11 = .ok (.bipush (-9), 2)) (by decide +kernel)
theorem x_30_13 (h : kd t r = 3) : Ev d 30 13 L (.int x :: .ref r :: st) (t, V, A, P) Q = Ev d 30 16 L st (t, up1 V r (up1 (V r) 5 (.int x)), A, P) Q := e_putf (by decide +kernel : decode (bOf 30) 13 = .ok (.putfield 28, 3)) (by decide +kernel) (by decide +kernel) rfl h
theorem x_30_16 : Ev d 30 16 (.ref r :: L) st μ Q = Ev d 30 17 (.ref r :: L) (.ref r :: st) μ Q := e_aload_n (by decide +kernel : decode (bOf 30) 16 = .ok (.aload_n 0, 1)) rfl
theorem x_30_17 : Ev d 30 17 L st μ Q = Ev d 30 19 L (.int (iI (-9)) :: st) μ Q := e_bipush (by decide +kernel : decode (bOf 30) 17 = .ok (.bipush (-9), 2)) (by decide +kernel)
theorem x_30_19 (h : kd t r = 3) : Ev d 30 19 L (.int x :: .ref r :: st) (t, V, A, P) Q = Ev d 30 22 L st (t, up1 V r (up1 (V r) 6 (.int x)), A, P) Q := e_putf (by decide +kernel : decode (bOf 30) 19 = .ok (.putfield 31, 3)) (by decide +kernel) (by decide +kernel) rfl h
theorem x_30_22 : Ev d 30 22 L [] μ Q = Q none μ := e_ret (by decide +kernel : decode (bOf 30) 22 = .ok (.return_, 1)) (by decide +kernel)
theorem c_31 : Call (d + 1) 31 [a0, a1] μ Q = Ev d 31 0 [a0, a1, .null] [] μ Q := call_ev rfl
theorem x_31_0 : Ev d 31 0 (.ref r :: L) st μ Q = Ev d 31 1 (.ref r :: L) (.ref r :: st) μ Q := e_aload_n (by decide +kernel : decode (bOf 31) 0 = .ok (.aload_n 0, 1)) rfl
theorem x_31_1 : Ev d 31 1 L (.ref r :: st) μ Q = Ev d 31 4 L st μ Q := e_ifnull (by decide +kernel : decode (bOf 31) 1 = .ok (.ifnull 7, 3))
theorem x_31_4 : Ev d 31 4 (a0 :: .ref r :: L) st μ Q = Ev d 31 5 (a0 :: .ref r :: L) (.ref r :: st) μ Q := e_aload_n (by decide +kernel : decode (bOf 31) 4 = .ok (.aload_n 1, 1)) rfl
theorem x_31_5 : Ev d 31 5 L (.ref r :: st) μ Q = Ev d 31 9 L st μ Q := e_ifnonnull (by decide +kernel : decode (bOf 31) 5 = .ok (.ifnonnull 4, 3)) (by omega)
theorem x_31_8 : Ev d 31 8 L [] μ Q = Q none μ := e_ret (by decide +kernel : decode (bOf 31) 8 = .ok (.return_, 1)) (by decide +kernel)
theorem x_31_9 : Ev d 31 9 L st μ Q = Ev d 31 10 L (.int (iI 0) :: st) μ Q := e_iconst (by decide +kernel : decode (bOf 31) 9 = .ok (.iconst 0, 1))
theorem x_31_10 (h : a1.category = 1) : Ev d 31 10 (a0 :: a1 :: a2 :: L) (.int x :: st) μ Q = Ev d 31 11 (a0 :: a1 :: .int x :: L) st μ Q := e_istore_n (by decide +kernel : decode (bOf 31) 10 = .ok (.istore_n 2, 1)) (by simp [stOK, h])
theorem x_31_11 : Ev d 31 11 (a0 :: a1 :: .int x :: L) st μ Q = Ev d 31 12 (a0 :: a1 :: .int x :: L) (.int x :: st) μ Q := e_iload_n (by decide +kernel : decode (bOf 31) 11 = .ok (.iload_n 2, 1)) rfl
theorem x_31_12 : Ev d 31 12 (.ref r :: L) st μ Q = Ev d 31 13 (.ref r :: L) (.ref r :: st) μ Q := e_aload_n (by decide +kernel : decode (bOf 31) 12 = .ok (.aload_n 0, 1)) rfl
theorem x_31_13 (h : kd t r = 3) : Ev d 31 13 L (.ref r :: st) (t, V, A, P) Q = Ev d 31 16 L (V r 3 :: st) (t, V, A, P) Q := e_getf (by decide +kernel : decode (bOf 31) 13 = .ok (.getfield 21, 3)) (by decide +kernel) (by decide +kernel) h
theorem x_31_16 : Ev d 31 16 L (.int y :: .int x :: st) μ Q = if x < y then Ev d 31 19 L st μ Q else Ev d 31 67 L st μ Q := e_icmp_ge (by decide +kernel : decode (bOf 31) 16 = .ok (.if_icmp .ge 51, 3)) (by omega)
theorem x_31_19 : Ev d 31 19 (a0 :: a1 :: .int x :: L) st μ Q = Ev d 31 20 (a0 :: a1 :: .int x :: L) (.int x :: st) μ Q := e_iload_n (by decide +kernel : decode (bOf 31) 19 = .ok (.iload_n 2, 1)) rfl
theorem x_31_20 : Ev d 31 20 L st μ Q = Ev d 31 22 L (.int (iI 32) :: st) μ Q := e_bipush (by decide +kernel : decode (bOf 31) 20 = .ok (.bipush 32, 2)) (by decide +kernel)
theorem x_31_22 : Ev d 31 22 L (.int y :: .int x :: st) μ Q = if x < y then Ev d 31 25 L st μ Q else Ev d 31 67 L st μ Q := e_icmp_ge (by decide +kernel : decode (bOf 31) 22 = .ok (.if_icmp .ge 45, 3)) (by omega)
theorem x_31_25 : Ev d 31 25 (a0 :: .ref r :: L) st μ Q = Ev d 31 26 (a0 :: .ref r :: L) (.ref r :: st) μ Q := e_aload_n (by decide +kernel : decode (bOf 31) 25 = .ok (.aload_n 1, 1)) rfl
theorem x_31_26 (h : kd t r = 3) : Ev d 31 26 L (.ref r :: st) (t, V, A, P) Q = Ev d 31 29 L (V r 0 :: st) (t, V, A, P) Q := e_getf (by decide +kernel : decode (bOf 31) 26 = .ok (.getfield 9, 3)) (by decide +kernel) (by decide +kernel) h
theorem x_31_29 : Ev d 31 29 (a0 :: a1 :: .int x :: L) st μ Q = Ev d 31 30 (a0 :: a1 :: .int x :: L) (.int x :: st) μ Q := e_iload_n (by decide +kernel : decode (bOf 31) 29 = .ok (.iload_n 2, 1)) rfl
theorem x_31_30 : Ev d 31 30 (.ref r :: L) st μ Q = Ev d 31 31 (.ref r :: L) (.ref r :: st) μ Q := e_aload_n (by decide +kernel : decode (bOf 31) 30 = .ok (.aload_n 0, 1)) rfl
theorem x_31_31 (h : kd t r = 3) : Ev d 31 31 L (.ref r :: st) (t, V, A, P) Q = Ev d 31 34 L (V r 0 :: st) (t, V, A, P) Q := e_getf (by decide +kernel : decode (bOf 31) 31 = .ok (.getfield 9, 3)) (by decide +kernel) (by decide +kernel) h
theorem x_31_34 : Ev d 31 34 (a0 :: a1 :: .int x :: L) st μ Q = Ev d 31 35 (a0 :: a1 :: .int x :: L) (.int x :: st) μ Q := e_iload_n (by decide +kernel : decode (bOf 31) 34 = .ok (.iload_n 2, 1)) rfl
theorem x_31_35 (h : kd t r = 6) (hi : inB x (ln t r) = true) : Ev d 31 35 L (.int x :: .ref r :: st) (t, V, A, P) Q = Ev d 31 36 L (.int (A r x.toNatClampNeg) :: st) (t, V, A, P) Q := e_iald (by decide +kernel : decode (bOf 31) 35 = .ok (.iaload, 1)) h hi
theorem x_31_36 (h : kd t r = 6) (hi : inB x (ln t r) = true) : Ev d 31 36 L (.int y :: .int x :: .ref r :: st) (t, V, A, P) Q = Ev d 31 37 L st (t, V, up1 A r (upd (A r) x.toNatClampNeg y), P) Q := e_iast (by decide +kernel : decode (bOf 31) 36 = .ok (.iastore, 1)) h hi
theorem x_31_37 : Ev d 31 37 (a0 :: .ref r :: L) st μ Q = Ev d 31 38 (a0 :: .ref r :: L) (.ref r :: st) μ Q := e_aload_n (by decide +kernel : decode (bOf 31) 37 = .ok (.aload_n 1, 1)) rfl
theorem x_31_38 (h : kd t r = 3) : Ev d 31 38 L (.ref r :: st) (t, V, A, P) Q = Ev d 31 41 L (V r 1 :: st) (t, V, A, P) Q := e_getf (by decide +kernel : decode (bOf 31) 38 = .ok (.getfield 15, 3)) (by decide +kernel) (by decide +kernel) h
theorem x_31_41 : Ev d 31 41 (a0 :: a1 :: .int x :: L) st μ Q = Ev d 31 42 (a0 :: a1 :: .int x :: L) (.int x :: st) μ Q := e_iload_n (by decide +kernel : decode (bOf 31) 41 = .ok (.iload_n 2, 1)) rfl
theorem x_31_42 : Ev d 31 42 (.ref r :: L) st μ Q = Ev d 31 43 (.ref r :: L) (.ref r :: st) μ Q := e_aload_n (by decide +kernel : decode (bOf 31) 42 = .ok (.aload_n 0, 1)) rfl
theorem x_31_43 (h : kd t r = 3) : Ev d 31 43 L (.ref r :: st) (t, V, A, P) Q = Ev d 31 46 L (V r 1 :: st) (t, V, A, P) Q := e_getf (by decide +kernel : decode (bOf 31) 43 = .ok (.getfield 15, 3)) (by decide +kernel) (by decide +kernel) h
theorem x_31_46 : Ev d 31 46 (a0 :: a1 :: .int x :: L) st μ Q = Ev d 31 47 (a0 :: a1 :: .int x :: L) (.int x :: st) μ Q := e_iload_n (by decide +kernel : decode (bOf 31) 46 = .ok (.iload_n 2, 1)) rfl
theorem x_31_47 (h : kd t r = 6) (hi : inB x (ln t r) = true) : Ev d 31 47 L (.int x :: .ref r :: st) (t, V, A, P) Q = Ev d 31 48 L (.int (A r x.toNatClampNeg) :: st) (t, V, A, P) Q := e_iald (by decide +kernel : decode (bOf 31) 47 = .ok (.iaload, 1)) h hi
theorem x_31_48 (h : kd t r = 6) (hi : inB x (ln t r) = true) : Ev d 31 48 L (.int y :: .int x :: .ref r :: st) (t, V, A, P) Q = Ev d 31 49 L st (t, V, up1 A r (upd (A r) x.toNatClampNeg y), P) Q := e_iast (by decide +kernel : decode (bOf 31) 48 = .ok (.iastore, 1)) h hi
theorem x_31_49 : Ev d 31 49 (a0 :: .ref r :: L) st μ Q = Ev d 31 50 (a0 :: .ref r :: L) (.ref r :: st) μ Q := e_aload_n (by decide +kernel : decode (bOf 31) 49 = .ok (.aload_n 1, 1)) rfl
theorem x_31_50 (h : kd t r = 3) : Ev d 31 50 L (.ref r :: st) (t, V, A, P) Q = Ev d 31 53 L (V r 2 :: st) (t, V, A, P) Q := e_getf (by decide +kernel : decode (bOf 31) 50 = .ok (.getfield 18, 3)) (by decide +kernel) (by decide +kernel) h
theorem x_31_53 : Ev d 31 53 (a0 :: a1 :: .int x :: L) st μ Q = Ev d 31 54 (a0 :: a1 :: .int x :: L) (.int x :: st) μ Q := e_iload_n (by decide +kernel : decode (bOf 31) 53 = .ok (.iload_n 2, 1)) rfl
theorem x_31_54 : Ev d 31 54 (.ref r :: L) st μ Q = Ev d 31 55 (.ref r :: L) (.ref r :: st) μ Q := e_aload_n (by decide +kernel : decode (bOf 31) 54 = .ok (.aload_n 0, 1)) rfl
theorem x_31_55 (h : kd t r = 3) : Ev d 31 55 L (.ref r :: st) (t, V, A, P) Q = Ev d 31 58 L (V r 2 :: st) (t, V, A, P) Q := e_getf (by decide +kernel : decode (bOf 31) 55 = .ok (.getfield 18, 3)) (by decide +kernel) (by decide +kernel) h
theorem x_31_58 : Ev d 31 58 (a0 :: a1 :: .int x :: L) st μ Q = Ev d 31 59 (a0 :: a1 :: .int x :: L) (.int x :: st) μ Q := e_iload_n (by decide +kernel : decode (bOf 31) 58 = .ok (.iload_n 2, 1)) rfl
theorem x_31_59 (h : kd t r = 6) (hi : inB x (ln t r) = true) : Ev d 31 59 L (.int x :: .ref r :: st) (t, V, A, P) Q = Ev d 31 60 L (.int (A r x.toNatClampNeg) :: st) (t, V, A, P) Q := e_iald (by decide +kernel : decode (bOf 31) 59 = .ok (.iaload, 1)) h hi
theorem x_31_60 (h : kd t r = 6) (hi : inB x (ln t r) = true) : Ev d 31 60 L (.int y :: .int x :: .ref r :: st) (t, V, A, P) Q = Ev d 31 61 L st (t, V, up1 A r (upd (A r) x.toNatClampNeg y), P) Q := e_iast (by decide +kernel : decode (bOf 31) 60 = .ok (.iastore, 1)) h hi
theorem x_31_61 (h : a1.category = 1) : Ev d 31 61 (a0 :: a1 :: .int x :: L) st μ Q = Ev d 31 64 (a0 :: a1 :: .int (x + (iI 1)) :: L) st μ Q := e_iinc (by decide +kernel : decode (bOf 31) 61 = .ok (.iinc 2 1, 3)) rfl (by simp [stOK, h])
theorem x_31_64 : Ev d 31 64 L st μ Q = Ev d 31 11 L st μ Q := e_goto (by decide +kernel : decode (bOf 31) 64 = .ok (.goto (-53), 3)) (by omega)
theorem x_31_67 : Ev d 31 67 (a0 :: .ref r :: L) st μ Q = Ev d 31 68 (a0 :: .ref r :: L) (.ref r :: st) μ Q := e_aload_n (by decide +kernel : decode (bOf 31) 67 = .ok (.aload_n 1, 1)) rfl
theorem x_31_68 : Ev d 31 68 (.ref r :: L) st μ Q = Ev d 31 69 (.ref r :: L) (.ref r :: st) μ Q := e_aload_n (by decide +kernel : decode (bOf 31) 68 = .ok (.aload_n 0, 1)) rfl
theorem x_31_69 (h : kd t r = 3) : Ev d 31 69 L (.ref r :: st) (t, V, A, P) Q = Ev d 31 72 L (V r 3 :: st) (t, V, A, P) Q := e_getf (by decide +kernel : decode (bOf 31) 69 = .ok (.getfield 21, 3)) (by decide +kernel) (by decide +kernel) h
theorem x_31_72 (h : kd t r = 3) : Ev d 31 72 L (.int x :: .ref r :: st) (t, V, A, P) Q = Ev d 31 75 L st (t, up1 V r (up1 (V r) 3 (.int x)), A, P) Q := e_putf (by decide +kernel : decode (bOf 31) 72 = .ok (.putfield 21, 3)) (by decide +kernel) (by decide +kernel) rfl h
theorem x_31_75 : Ev d 31 75 (a0 :: .ref r :: L) st μ Q = Ev d 31 76 (a0 :: .ref r :: L) (.ref r :: st) μ Q := e_aload_n (by decide +kernel : decode (bOf 31) 75 = .ok (.aload_n 1, 1)) rfl
theorem x_31_76 : Ev d 31 76 (.ref r :: L) st μ Q = Ev d 31 77 (.ref r :: L) (.ref r :: st) μ Q := e_aload_n (by decide +kernel : decode (bOf 31) 76 = .ok (.aload_n 0, 1)) rfl
theorem x_31_77 (h : kd t r = 3) : Ev d 31 77 L (.ref r :: st) (t, V, A, P) Q = Ev d 31 80 L (V r 4 :: st) (t, V, A, P) Q := e_getf (by decide +kernel : decode (bOf 31) 77 = .ok (.getfield 25, 3)) (by decide +kernel) (by decide +kernel) h
theorem x_31_80 (h : kd t r = 3) : Ev d 31 80 L (.int x :: .ref r :: st) (t, V, A, P) Q = Ev d 31 83 L st (t, up1 V r (up1 (V r) 4 (.int x)), A, P) Q := e_putf (by decide +kernel : decode (bOf 31) 80 = .ok (.putfield 25, 3)) (by decide +kernel) (by decide +kernel) rfl h
theorem x_31_83 : Ev d 31 83 (a0 :: .ref r :: L) st μ Q = Ev d 31 84 (a0 :: .ref r :: L) (.ref r :: st) μ Q := e_aload_n (by decide +kernel : decode (bOf 31) 83 = .ok (.aload_n 1, 1)) rfl
theorem x_31_84 : Ev d 31 84 (.ref r :: L) st μ Q = Ev d 31 85 (.ref r :: L) (.ref r :: st) μ Q := e_aload_n (by decide +kernel : decode (bOf 31) 84 = .ok (.aload_n 0, 1)) rfl
theorem x_31_85 (h : kd t r = 3) : Ev d 31 85 L (.ref r :: st) (t, V, A, P) Q = Ev d 31 88 L (V r 5 :: st) (t, V, A, P) Q := e_getf (by decide +kernel : decode (bOf 31) 85 = .ok (.getfield 28, 3)) (by decide +kernel) (by decide +kernel) h
theorem x_31_88 (h : kd t r = 3) : Ev d 31 88 L (.int x :: .ref r :: st) (t, V, A, P) Q = Ev d 31 91 L st (t, up1 V r (up1 (V r) 5 (.int x)), A, P) Q := e_putf (by decide +kernel : decode (bOf 31) 88 = .ok (.putfield 28, 3)) (by decide +kernel) (by decide +kernel) rfl h
theorem x_31_91 : Ev d 31 91 (a0 :: .ref r :: L) st μ Q = Ev d 31 92 (a0 :: .ref r :: L) (.ref r :: st) μ Q := e_aload_n (by decide +kernel : decode (bOf 31) 91 = .ok (.aload_n 1, 1)) rfl
theorem x_31_92 : Ev d 31 92 (.ref r :: L) st μ Q = Ev d 31 93 (.ref r :: L) (.ref r :: st) μ Q := e_aload_n (by decide +kernel : decode (bOf 31) 92 = .ok (.aload_n 0, 1)) rfl
theorem x_31_93 (h : kd t r = 3) : Ev d 31 93 L (.ref r :: st) (t, V, A, P) Q = Ev d 31 96 L (V r 6 :: st) (t, V, A, P) Q := e_getf (by decide +kernel : decode (bOf 31) 93 = .ok (.getfield 31, 3)) (by decide +kernel) (by decide +kernel) h
theorem x_31_96 (h : kd t r = 3) : Ev d 31 96 L (.int x :: .ref r :: st) (t, V, A, P) Q = Ev d 31 99 L st (t, up1 V r (up1 (V r) 6 (.int x)), A, P) Q := e_putf (by decide +kernel : decode (bOf 31) 96 = .ok (.putfield 31, 3)) (by decide +kernel) (by decide +kernel) rfl h
theorem x_31_99 : Ev d 31 99 L [] μ Q = Q none μ := e_ret (by decide +kernel : decode (bOf 31) 99 = .ok (.return_, 1)) (by decide +kernel)
theorem c_32 : Call (d + 1) 32 [a0, a1] μ Q = Ev d 32 0 [a0, a1, .null] [] μ Q := call_ev rfl
theorem x_32_0 : Ev d 32 0 (.ref r :: L) st μ Q = Ev d 32 1 (.ref r :: L) (.ref r :: st) μ Q := e_aload_n (by decide +kernel : decode (bOf 32) 0 = .ok (.aload_n 0, 1)) rfl
theorem x_32_1 (h : kd t r = 3) : Ev d 32 1 L (.ref r :: st) (t, V, A, P) Q = Ev d 32 4 L (V r 3 :: st) (t, V, A, P) Q := e_getf (by decide +kernel : decode (bOf 32) 1 = .ok (.getfield 21, 3)) (by decide +kernel) (by decide +kernel) h
theorem x_32_4 : Ev d 32 4 L (.int x :: st) μ Q = if x < iI 0 then Ev d 32 16 L st μ Q else Ev d 32 7 L st μ Q := e_if_lt (by decide +kernel : decode (bOf 32) 4 = .ok (.ifCond .lt 12, 3)) (by omega)
theorem x_32_7 : Ev d 32 7 (.ref r :: L) st μ Q = Ev d 32 8 (.ref r :: L) (.ref r :: st) μ Q := e_aload_n (by decide +kernel : decode (bOf 32) 7 = .ok (.aload_n 0, 1)) rfl
theorem x_32_8 (h : kd t r = 3) : Ev d 32 8 L (.ref r :: st) (t, V, A, P) Q = Ev d 32 11 L (V r 3 :: st) (t, V, A, P) Q := e_getf (by decide +kernel : decode (bOf 32) 8 = .ok (.getfield 21, 3)) (by decide +kernel) (by decide +kernel) h
theorem x_32_11 : Ev d 32 11 L st μ Q = Ev d 32 13 L (.int (iI 32) :: st) μ Q := e_bipush (by decide +kernel : decode (bOf 32) 11 = .ok (.bipush 32, 2)) (by decide +kernel)
theorem x_32_13 : Ev d 32 13 L (.int y :: .int x :: st) μ Q = if x < y then Ev d 32 19 L st μ Q else Ev d 32 16 L st μ Q := e_icmp_lt (by decide +kernel : decode (bOf 32) 13 = .ok (.if_icmp .lt 6, 3)) (by omega)
theorem x_32_16 : Ev d 32 16 L st μ Q = Ev d 32 18 L (.int (iI (-3)) :: st) μ Q := e_bipush (by decide +kernel : decode (bOf 32) 16 = .ok (.bipush (-3), 2)) (by decide +kernel)
theorem x_32_18 : Ev d 32 18 L [.int x] μ Q = Q (some (.int x)) μ := e_iret (by decide +kernel : decode (bOf 32) 18 = .ok (.ireturn, 1)) (by decide +kernel)
theorem x_32_19 : Ev d 32 19 (a0 :: .int x :: L) st μ Q = Ev d 32 20 (a0 :: .int x :: L) (.int x :: st) μ Q := e_iload_n (by decide +kernel : decode (bOf 32) 19 = .ok (.iload_n 1, 1)) rfl
theorem x_32_20 : Ev d 32 20 (.ref r :: L) st μ Q = Ev d 32 21 (.ref r :: L) (.ref r :: st) μ Q := e_aload_n (by decide +kernel : decode (bOf 32) 20 = .ok (.aload_n 0, 1)) rfl
theorem x_32_21 (h : kd t r = 3) : Ev d 32 21 L (.ref r :: st) (t, V, A, P) Q = Ev d 32 24 L (V r 4 :: st) (t, V, A, P) Q := e_getf (by decide +kernel : decode (bOf 32) 21 = .ok (.getfield 25, 3)) (by decide +kernel) (by decide +kernel) h
theorem x_32_24 : Ev d 32 24 L [b1, b0] μ Q = Call d 3 [b0, b1] μ (fun v μ1 => Ev d 32 27 L (v.toList ++ []) μ1 Q) := e_callS (a := [b0, b1]) (r := []) (by decide +kernel : decode (bOf 32) 24 = .ok (.invokestatic 34, 3)) (by decide +kernel) (by decide +kernel) rfl (by simp)
theorem x_32_27 (h : a1.category = 1) : Ev d 32 27 (a0 :: a1 :: a2 :: L) (.int x :: st) μ Q = Ev d 32 28 (a0 :: a1 :: .int x :: L) st μ Q := e_istore_n (by decide +kernel : decode (bOf 32) 27 = .ok (.istore_n 2, 1)) (by simp [stOK, h])
theorem x_32_28 : Ev d 32 28 (.ref r :: L) st μ Q = Ev d 32 29 (.ref r :: L) (.ref r :: st) μ Q := e_aload_n (by decide +kernel : decode (bOf 32) 28 = .ok (.aload_n 0, 1)) rfl
theorem x_32_29 (h : kd t r = 3) : Ev d 32 29 L (.ref r :: st) (t, V, A, P) Q = Ev d 32 32 L (V r 0 :: st) (t, V, A, P) Q := e_getf (by decide +kernel : decode (bOf 32) 29 = .ok (.getfield 9, 3)) (by decide +kernel) (by decide +kernel) h
theorem x_32_32 : Ev d 32 32 (.ref r :: L) st μ Q = Ev d 32 33 (.ref r :: L) (.ref r :: st) μ Q := e_aload_n (by decide +kernel : decode (bOf 32) 32 = .ok (.aload_n 0, 1)) rfl
theorem x_32_33 (h : kd t r = 3) : Ev d 32 33 L (.ref r :: st) (t, V, A, P) Q = Ev d 32 36 L (V r 3 :: st) (t, V, A, P) Q := e_getf (by decide +kernel : decode (bOf 32) 33 = .ok (.getfield 21, 3)) (by decide +kernel) (by decide +kernel) h
theorem x_32_36 : Ev d 32 36 (a0 :: .int x :: L) st μ Q = Ev d 32 37 (a0 :: .int x :: L) (.int x :: st) μ Q := e_iload_n (by decide +kernel : decode (bOf 32) 36 = .ok (.iload_n 1, 1)) rfl
theorem x_32_37 (h : kd t r = 6) (hi : inB x (ln t r) = true) : Ev d 32 37 L (.int y :: .int x :: .ref r :: st) (t, V, A, P) Q = Ev d 32 38 L st (t, V, up1 A r (upd (A r) x.toNatClampNeg y), P) Q := e_iast (by decide +kernel : decode (bOf 32) 37 = .ok (.iastore, 1)) h hi
theorem x_32_38 : Ev d 32 38 (.ref r :: L) st μ Q = Ev d 32 39 (.ref r :: L) (.ref r :: st) μ Q := e_aload_n (by decide +kernel : decode (bOf 32) 38 = .ok (.aload_n 0, 1)) rfl
theorem x_32_39 (h : kd t r = 3) : Ev d 32 39 L (.ref r :: st) (t, V, A, P) Q = Ev d 32 42 L (V r 1 :: st) (t, V, A, P) Q := e_getf (by decide +kernel : decode (bOf 32) 39 = .ok (.getfield 15, 3)) (by decide +kernel) (by decide +kernel) h
theorem x_32_42 : Ev d 32 42 (.ref r :: L) st μ Q = Ev d 32 43 (.ref r :: L) (.ref r :: st) μ Q := e_aload_n (by decide +kernel : decode (bOf 32) 42 = .ok (.aload_n 0, 1)) rfl
theorem x_32_43 (h : kd t r = 3) : Ev d 32 43 L (.ref r :: st) (t, V, A, P) Q = Ev d 32 46 L (V r 3 :: st) (t, V, A, P) Q := e_getf (by decide +kernel : decode (bOf 32) 43 = .ok (.getfield 21, 3)) (by decide +kernel) (by decide +kernel) h
theorem x_32_46 : Ev d 32 46 (a0 :: a1 :: .int x :: L) st μ Q = Ev d 32 47 (a0 :: a1 :: .int x :: L) (.int x :: st) μ Q := e_iload_n (by decide +kernel : decode (bOf 32) 46 = .ok (.iload_n 2, 1)) rfl
theorem x_32_47 (h : kd t r = 6) (hi : inB x (ln t r) = true) : Ev d 32 47 L (.int y :: .int x :: .ref r :: st) (t, V, A, P) Q = Ev d 32 48 L st (t, V, up1 A r (upd (A r) x.toNatClampNeg y), P) Q := e_iast (by decide +kernel : decode (bOf 32) 47 = .ok (.iastore, 1)) h hi
theorem x_32_48 : Ev d 32 48 (.ref r :: L) st μ Q = Ev d 32 49 (.ref r :: L) (.ref r :: st) μ Q := e_aload_n (by decide +kernel : decode (bOf 32) 48 = .ok (.aload_n 0, 1)) rfl
theorem x_32_49 (h : kd t r = 3) : Ev d 32 49 L (.ref r :: st) (t, V, A, P) Q = Ev d 32 52 L (V r 2 :: st) (t, V, A, P) Q := e_getf (by decide +kernel : decode (bOf 32) 49 = .ok (.getfield 18, 3)) (by decide +kernel) (by decide +kernel) h
theorem x_32_52 : Ev d 32 52 (.ref r :: L) st μ Q = Ev d 32 53 (.ref r :: L) (.ref r :: st) μ Q := e_aload_n (by decide +kernel : decode (bOf 32) 52 = .ok (.aload_n 0, 1)) rfl
theorem x_32_53 (h : kd t r = 3) : Ev d 32 53 L (.ref r :: st) (t, V, A, P) Q = Ev d 32 56 L (V r 3 :: st) (t, V, A, P) Q := e_getf (by decide +kernel : decode (bOf 32) 53 = .ok (.getfield 21, 3)) (by decide +kernel) (by decide +kernel) h
theorem x_32_56 : Ev d 32 56 (a0 :: a1 :: .int x :: L) st μ Q = Ev d 32 57 (a0 :: a1 :: .int x :: L) (.int x :: st) μ Q := e_iload_n (by decide +kernel : decode (bOf 32) 56 = .ok (.iload_n 2, 1)) rfl
theorem x_32_57 (h : kd t r = 6) (hi : inB x (ln t r) = true) : Ev d 32 57 L (.int y :: .int x :: .ref r :: st) (t, V, A, P) Q = Ev d 32 58 L st (t, V, up1 A r (upd (A r) x.toNatClampNeg y), P) Q := e_iast (by decide +kernel : decode (bOf 32) 57 = .ok (.iastore, 1)) h hi
theorem x_32_58 : Ev d 32 58 (.ref r :: L) st μ Q = Ev d 32 59 (.ref r :: L) (.ref r :: st) μ Q := e_aload_n (by decide +kernel : decode (bOf 32) 58 = .ok (.aload_n 0, 1)) rfl
theorem x_32_59 : Ev d 32 59 L (.ref r :: st) μ Q = Ev d 32 60 L (.ref r :: .ref r :: st) μ Q := e_dup_a (by decide +kernel : decode (bOf 32) 59 = .ok (.dup, 1))
theorem x_32_60 (h : kd t r = 3) : Ev d 32 60 L (.ref r :: st) (t, V, A, P) Q = Ev d 32 63 L (V r 3 :: st) (t, V, A, P) Q := e_getf (by decide +kernel : decode (bOf 32) 60 = .ok (.getfield 21, 3)) (by decide +kernel) (by decide +kernel) h
theorem x_32_63 : Ev d 32 63 L st μ Q = Ev d 32 64 L (.int (iI 1) :: st) μ Q := e_iconst (by decide +kernel : decode (bOf 32) 63 = .ok (.iconst 1, 1))
theorem x_32_64 : Ev d 32 64 L (.int y :: .int x :: st) μ Q = Ev d 32 65 L (.int (x + y) :: st) μ Q := e_iadd (by decide +kernel : decode (bOf 32) 64 = .ok (.iadd, 1))
theorem x_32_65 (h : kd t r = 3) : Ev d 32 65 L (.int x :: .ref r :: st) (t, V, A, P) Q = Ev d 32 68 L st (t, up1 V r (up1 (V r) 3 (.int x)), A, P) Q := e_putf (by decide +kernel : decode (bOf 32) 65 = .ok (.putfield 21, 3)) (by decide +kernel) (by decide +kernel) rfl h
theorem x_32_68 : Ev d 32 68 (.ref r :: L) st μ Q = Ev d 32 69 (.ref r :: L) (.ref r :: st) μ Q := e_aload_n (by decide +kernel : decode (bOf 32) 68 = .ok (.aload_n 0, 1)) rfl
theorem x_32_69 : Ev d 32 69 (a0 :: a1 :: .int x :: L) st μ Q = Ev d 32 70 (a0 :: a1 :: .int x :: L) (.int x :: st) μ Q := e_iload_n (by decide +kernel : decode (bOf 32) 69 = .ok (.iload_n 2, 1)) rfl
theorem x_32_70 : Ev d 32 70 (.ref r :: L) st μ Q = Ev d 32 71 (.ref r :: L) (.ref r :: st) μ Q := e_aload_n (by decide +kernel : decode (bOf 32) 70 = .ok (.aload_n 0, 1)) rfl
theorem x_32_71 (h : kd t r = 3) : Ev d 32 71 L (.ref r :: st) (t, V, A, P) Q = Ev d 32 74 L (V r 4 :: st) (t, V, A, P) Q := e_getf (by decide +kernel : decode (bOf 32) 71 = .ok (.getfield 25, 3)) (by decide +kernel) (by decide +kernel) h
theorem x_32_74 : Ev d 32 74 L [b1, b0, s0] μ Q = Call d 6 [b0, b1] μ (fun v μ1 => Ev d 32 77 L (v.toList ++ [s0]) μ1 Q) := e_callS (a := [b0, b1]) (r := [s0]) (by decide +kernel : decode (bOf 32) 74 = .ok (.invokestatic 40, 3)) (by decide +kernel) (by decide +kernel) rfl (by simp)
theorem x_32_77 (h : kd t r = 3) : Ev d 32 77 L (.int x :: .ref r :: st) (t, V, A, P) Q = Ev d 32 80 L st (t, up1 V r (up1 (V r) 4 (.int x)), A, P) Q := e_putf (by decide +kernel : decode (bOf 32) 77 = .ok (.putfield 25, 3)) (by decide +kernel) (by decide +kernel) rfl h
theorem x_32_80 : Ev d 32 80 (a0 :: .int x :: L) st μ Q = Ev d 32 81 (a0 :: .int x :: L) (.int x :: st) μ Q := e_iload_n (by decide +kernel : decode (bOf 32) 80 = .ok (.iload_n 1, 1)) rfl
theorem x_32_81 : Ev d 32 81 L st μ Q = Ev d 32 83 L (.int (iI 31) :: st) μ Q := e_bipush (by decide +kernel : decode (bOf 32) 81 = .ok (.bipush 31, 2)) (by decide +kernel)
theorem x_32_83 : Ev d 32 83 L (.int y :: .int x :: st) μ Q = if x < y then Ev d 32 94 L st μ Q else Ev d 32 86 L st μ Q := e_icmp_lt (by decide +kernel : decode (bOf 32) 83 = .ok (.if_icmp .lt 11, 3)) (by omega)
theorem x_32_86 : Ev d 32 86 (.ref r :: L) st μ Q = Ev d 32 87 (.ref r :: L) (.ref r :: st) μ Q := e_aload_n (by decide +kernel : decode (bOf 32) 86 = .ok (.aload_n 0, 1)) rfl
theorem x_32_87 : Ev d 32 87 (a0 :: .int x :: L) st μ Q = Ev d 32 88 (a0 :: .int x :: L) (.int x :: st) μ Q := e_iload_n (by decide +kernel : decode (bOf 32) 87 = .ok (.iload_n 1, 1)) rfl
theorem x_32_88 : Ev d 32 88 L st μ Q = Ev d 32 90 L (.int (iI 31) :: st) μ Q := e_bipush (by decide +kernel : decode (bOf 32) 88 = .ok (.bipush 31, 2)) (by decide +kernel)
theorem x_32_90 : Ev d 32 90 L (.int y :: .int x :: st) μ Q = Ev d 32 91 L (.int (x - y) :: st) μ Q := e_isub (by decide +kernel : decode (bOf 32) 90 = .ok (.isub, 1))
theorem x_32_91 (h : kd t r = 3) : Ev d 32 91 L [b0, .ref r] (t, V, A, P) Q = Call d 33 [.ref r, b0] (t, V, A, P) (fun v μ1 => Ev d 32 94 L (v.toList ++ []) μ1 Q) := e_callV (a := [b0]) (r := []) (by decide +kernel : decode (bOf 32) 91 = .ok (.invokevirtual 43, 3)) (by decide +kernel) (by decide +kernel) (by decide +kernel) rfl (by simp) (by decide +kernel) h
theorem x_32_94 : Ev d 32 94 (a0 :: a1 :: .int x :: L) st μ Q = Ev d 32 95 (a0 :: a1 :: .int x :: L) (.int x :: st) μ Q := e_iload_n (by decide +kernel : decode (bOf 32) 94 = .ok (.iload_n 2, 1)) rfl
theorem x_32_95 : Ev d 32 95 L [.int x] μ Q = Q (some (.int x)) μ := e_iret (by decide +kernel : decode (bOf 32) 95 = .ok (.ireturn, 1)) (by decide +kernel)
theorem c_33 : Call (d + 1) 33 [a0, a1] μ Q = Ev d 33 0 [a0, a1] [] μ Q := call_ev rfl
theorem x_33_0 : Ev d 33 0 (a0 :: .int x :: L) st μ Q = Ev d 33 1 (a0 :: .int x :: L) (.int x :: st) μ Q := e_iload_n (by decide +kernel : decode (bOf 33) 0 = .ok (.iload_n 1, 1)) rfl
theorem x_33_1 : Ev d 33 1 (.ref r :: L) st μ Q = Ev d 33 2 (.ref r :: L) (.ref r :: st) μ Q := e_aload_n (by decide +kernel : decode (bOf 33) 1 = .ok (.aload_n 0, 1)) rfl
theorem x_33_2 (h : kd t r = 3) : Ev d 33 2 L (.ref r :: st) (t, V, A, P) Q = Ev d 33 5 L (V r 6 :: st) (t, V, A, P) Q := e_getf (by decide +kernel : decode (bOf 33) 2 = .ok (.getfield 31, 3)) (by decide +kernel) (by decide +kernel) h
theorem x_33_5 : Ev d 33 5 L (.int y :: .int x :: st) μ Q = if x = y then Ev d 33 21 L st μ Q else Ev d 33 8 L st μ Q := e_icmp_eq (by decide +kernel : decode (bOf 33) 5 = .ok (.if_icmp .eq 16, 3)) (by omega)
theorem x_33_8 : Ev d 33 8 (.ref r :: L) st μ Q = Ev d 33 9 (.ref r :: L) (.ref r :: st) μ Q := e_aload_n (by decide +kernel : decode (bOf 33) 8 = .ok (.aload_n 0, 1)) rfl
theorem x_33_9 : Ev d 33 9 (.ref r :: L) st μ Q = Ev d 33 10 (.ref r :: L) (.ref r :: st) μ Q := e_aload_n (by decide +kernel : decode (bOf 33) 9 = .ok (.aload_n 0, 1)) rfl
theorem x_33_10 (h : kd t r = 3) : Ev d 33 10 L (.ref r :: st) (t, V, A, P) Q = Ev d 33 13 L (V r 6 :: st) (t, V, A, P) Q := e_getf (by decide +kernel : decode (bOf 33) 10 = .ok (.getfield 31, 3)) (by decide +kernel) (by decide +kernel) h
theorem x_33_13 (h : kd t r = 3) : Ev d 33 13 L (.int x :: .ref r :: st) (t, V, A, P) Q = Ev d 33 16 L st (t, up1 V r (up1 (V r) 5 (.int x)), A, P) Q := e_putf (by decide +kernel : decode (bOf 33) 13 = .ok (.putfield 28, 3)) (by decide +kernel) (by decide +kernel) rfl h
theorem x_33_16 : Ev d 33 16 (.ref r :: L) st μ Q = Ev d 33 17 (.ref r :: L) (.ref r :: st) μ Q := e_aload_n (by decide +kernel : decode (bOf 33) 16 = .ok (.aload_n 0, 1)) rfl
theorem x_33_17 : Ev d 33 17 (a0 :: .int x :: L) st μ Q = Ev d 33 18 (a0 :: .int x :: L) (.int x :: st) μ Q := e_iload_n (by decide +kernel : decode (bOf 33) 17 = .ok (.iload_n 1, 1)) rfl
theorem x_33_18 (h : kd t r = 3) : Ev d 33 18 L (.int x :: .ref r :: st) (t, V, A, P) Q = Ev d 33 21 L st (t, up1 V r (up1 (V r) 6 (.int x)), A, P) Q := e_putf (by decide +kernel : decode (bOf 33) 18 = .ok (.putfield 31, 3)) (by decide +kernel) (by decide +kernel) rfl h
theorem x_33_21 : Ev d 33 21 L [] μ Q = Q none μ := e_ret (by decide +kernel : decode (bOf 33) 21 = .ok (.return_, 1)) (by decide +kernel)
theorem c_34 : Call (d + 1) 34 [a0, a1] μ Q = Ev d 34 0 [a0, a1, .null] [] μ Q := call_ev rfl
theorem x_34_0 : Ev d 34 0 (.ref r :: L) st μ Q = Ev d 34 1 (.ref r :: L) (.ref r :: st) μ Q := e_aload_n (by decide +kernel : decode (bOf 34) 0 = .ok (.aload_n 0, 1)) rfl
theorem x_34_1 (h : kd t r = 3) : Ev d 34 1 L (.ref r :: st) (t, V, A, P) Q = Ev d 34 4 L (V r 6 :: st) (t, V, A, P) Q := e_getf (by decide +kernel : decode (bOf 34) 1 = .ok (.getfield 31, 3)) (by decide +kernel) (by decide +kernel) h
theorem x_34_4 : Ev d 34 4 L st μ Q = Ev d 34 6 L (.int (iI (-9)) :: st) μ Q := e_bipush (by decide +kernel : decode (bOf 34) 4 = .ok (.bipush (-9), 2)) (by decide +kernel)
theorem x_34_6 : Ev d 34 6 L (.int y :: .int x :: st) μ Q = if x = y then Ev d 34 9 L st μ Q else Ev d 34 13 L st μ Q := e_icmp_ne (by decide +kernel : decode (bOf 34) 6 = .ok (.if_icmp .ne 7, 3)) (by omega)
theorem x_34_9 : Ev d 34 9 L st μ Q = Ev d 34 10 L (.int (iI 0) :: st) μ Q := e_iconst (by decide +kernel : decode (bOf 34) 9 = .ok (.iconst 0, 1))
theorem x_34_10 : Ev d 34 10 L st μ Q = Ev d 34 27 L st μ Q := e_goto (by decide +kernel : decode (bOf 34) 10 = .ok (.goto 17, 3)) (by omega)
theorem x_34_13 : Ev d 34 13 (.ref r :: L) st μ Q = Ev d 34 14 (.ref r :: L) (.ref r :: st) μ Q := e_aload_n (by decide +kernel : decode (bOf 34) 13 = .ok (.aload_n 0, 1)) rfl
theorem x_34_14 (h : kd t r = 3) : Ev d 34 14 L (.ref r :: st) (t, V, A, P) Q = Ev d 34 17 L (V r 5 :: st) (t, V, A, P) Q := e_getf (by decide +kernel : decode (bOf 34) 14 = .ok (.getfield 28, 3)) (by decide +kernel) (by decide +kernel) h
theorem x_34_17 : Ev d 34 17 L st μ Q = Ev d 34 19 L (.int (iI (-9)) :: st) μ Q := e_bipush (by decide +kernel : decode (bOf 34) 17 = .ok (.bipush (-9), 2)) (by decide +kernel)
theorem x_34_19 : Ev d 34 19 L (.int y :: .int x :: st) μ Q = if x = y then Ev d 34 22 L st μ Q else Ev d 34 26 L st μ Q := e_icmp_ne (by decide +kernel : decode (bOf 34) 19 = .ok (.if_icmp .ne 7, 3)) (by omega)
theorem x_34_22 : Ev d 34 22 L st μ Q = Ev d 34 23 L (.int (iI 1) :: st) μ Q := e_iconst (by decide +kernel : decode (bOf 34) 22 = .ok (.iconst 1, 1))
theorem x_34_23 : Ev d 34 23 L st μ Q = Ev d 34 27 L st μ Q := e_goto (by decide +kernel : decode (bOf 34) 23 = .ok (.goto 4, 3)) (by omega)
theorem x_34_26 : Ev d 34 26 L st μ Q = Ev d 34 27 L (.int (iI 2) :: st) μ Q := e_iconst (by decide +kernel : decode (bOf 34) 26 = .ok (.iconst 2, 1))
theorem x_34_27 (h : a1.category = 1) : Ev d 34 27 (a0 :: a1 :: a2 :: L) (.int x :: st) μ Q = Ev d 34 28 (a0 :: a1 :: .int x :: L) st μ Q := e_istore_n (by decide +kernel : decode (bOf 34) 27 = .ok (.istore_n 2, 1)) (by simp [stOK, h])
theorem x_34_28 : Ev d 34 28 (a0 :: .int x :: L) st μ Q = Ev d 34 29 (a0 :: .int x :: L) (.int x :: st) μ Q := e_iload_n (by decide +kernel : decode (bOf 34) 28 = .ok (.iload_n 1, 1)) rfl
theorem x_34_29 : Ev d 34 29 L (.int x :: st) μ Q = if x < iI 0 then Ev d 34 37 L st μ Q else Ev d 34 32 L st μ Q := e_if_lt (by decide +kernel : decode (bOf 34) 29 = .ok (.ifCond .lt 8, 3)) (by omega)
theorem x_34_32 : Ev d 34 32 (a0 :: .int x :: L) st μ Q = Ev d 34 33 (a0 :: .int x :: L) (.int x :: st) μ Q := e_iload_n (by decide +kernel : decode (bOf 34) 32 = .ok (.iload_n 1, 1)) rfl
theorem x_34_33 : Ev d 34 33 (a0 :: a1 :: .int x :: L) st μ Q = Ev d 34 34 (a0 :: a1 :: .int x :: L) (.int x :: st) μ Q := e_iload_n (by decide +kernel : decode (bOf 34) 33 = .ok (.iload_n 2, 1)) rfl
theorem x_34_34 : Ev d 34 34 L (.int y :: .int x :: st) μ Q = if x < y then Ev d 34 40 L st μ Q else Ev d 34 37 L st μ Q := e_icmp_lt (by decide +kernel : decode (bOf 34) 34 = .ok (.if_icmp .lt 6, 3)) (by omega)
theorem x_34_37 : Ev d 34 37 L st μ Q = Ev d 34 39 L (.int (iI (-9)) :: st) μ Q := e_bipush (by decide +kernel : decode (bOf 34) 37 = .ok (.bipush (-9), 2)) (by decide +kernel)
theorem x_34_39 : Ev d 34 39 L [.int x] μ Q = Q (some (.int x)) μ := e_iret (by decide +kernel : decode (bOf 34) 39 = .ok (.ireturn, 1)) (by decide +kernel)
theorem x_34_40 : Ev d 34 40 (a0 :: .int x :: L) st μ Q = Ev d 34 41 (a0 :: .int x :: L) (.int x :: st) μ Q := e_iload_n (by decide +kernel : decode (bOf 34) 40 = .ok (.iload_n 1, 1)) rfl
theorem x_34_41 : Ev d 34 41 (a0 :: a1 :: .int x :: L) st μ Q = Ev d 34 42 (a0 :: a1 :: .int x :: L) (.int x :: st) μ Q := e_iload_n (by decide +kernel : decode (bOf 34) 41 = .ok (.iload_n 2, 1)) rfl
theorem x_34_42 : Ev d 34 42 L st μ Q = Ev d 34 43 L (.int (iI 1) :: st) μ Q := e_iconst (by decide +kernel : decode (bOf 34) 42 = .ok (.iconst 1, 1))
theorem x_34_43 : Ev d 34 43 L (.int y :: .int x :: st) μ Q = Ev d 34 44 L (.int (x - y) :: st) μ Q := e_isub (by decide +kernel : decode (bOf 34) 43 = .ok (.isub, 1))
theorem x_34_44 : Ev d 34 44 L (.int y :: .int x :: st) μ Q = if x = y then Ev d 34 47 L st μ Q else Ev d 34 54 L st μ Q := e_icmp_ne (by decide +kernel : decode (bOf 34) 44 = .ok (.if_icmp .ne 10, 3)) (by omega)
theorem x_34_47 : Ev d 34 47 (.ref r :: L) st μ Q = Ev d 34 48 (.ref r :: L) (.ref r :: st) μ Q := e_aload_n (by decide +kernel : decode (bOf 34) 47 = .ok (.aload_n 0, 1)) rfl
theorem x_34_48 (h : kd t r = 3) : Ev d 34 48 L (.ref r :: st) (t, V, A, P) Q = Ev d 34 51 L (V r 6 :: st) (t, V, A, P) Q := e_getf (by decide +kernel : decode (bOf 34) 48 = .ok (.getfield 31, 3)) (by decide +kernel) (by decide +kernel) h
theorem x_34_51 : Ev d 34 51 L st μ Q = Ev d 34 58 L st μ Q := e_goto (by decide +kernel : decode (bOf 34) 51 = .ok (.goto 7, 3)) (by omega)
theorem x_34_54 : Ev d 34 54 (.ref r :: L) st μ Q = Ev d 34 55 (.ref r :: L) (.ref r :: st) μ Q := e_aload_n (by decide +kernel : decode (bOf 34) 54 = .ok (.aload_n 0, 1)) rfl
theorem x_34_55 (h : kd t r = 3) : Ev d 34 55 L (.ref r :: st) (t, V, A, P) Q = Ev d 34 58 L (V r 5 :: st) (t, V, A, P) Q := e_getf (by decide +kernel : decode (bOf 34) 55 = .ok (.getfield 28, 3)) (by decide +kernel) (by decide +kernel) h
theorem x_34_58 : Ev d 34 58 L [.int x] μ Q = Q (some (.int x)) μ := e_iret (by decide +kernel : decode (bOf 34) 58 = .ok (.ireturn, 1)) (by decide +kernel)
theorem c_35 : Call (d + 1) 35 [a0] μ Q = Ev d 35 0 [a0] [] μ Q := call_ev rfl
theorem x_35_0 : Ev d 35 0 (.ref r :: L) st μ Q = Ev d 35 1 (.ref r :: L) (.ref r :: st) μ Q := e_aload_n (by decide +kernel : decode (bOf 35) 0 = .ok (.aload_n 0, 1)) rfl
theorem x_35_1 (h : kd t r = 3) : Ev d 35 1 L (.ref r :: st) (t, V, A, P) Q = Ev d 35 4 L (V r 3 :: st) (t, V, A, P) Q := e_getf (by decide +kernel : decode (bOf 35) 1 = .ok (.getfield 21, 3)) (by decide +kernel) (by decide +kernel) h
theorem x_35_4 : Ev d 35 4 L st μ Q = Ev d 35 6 L (.int (iI 6) :: st) μ Q := e_bipush (by decide +kernel : decode (bOf 35) 4 = .ok (.bipush 6, 2)) (by decide +kernel)
theorem x_35_6 : Ev d 35 6 L (.int y :: .int x :: st) μ Q = Ev d 35 7 L (.int (x * y) :: st) μ Q := e_imul (by decide +kernel : decode (bOf 35) 6 = .ok (.imul, 1))
theorem x_35_7 : Ev d 35 7 L [.int x] μ Q = Q (some (.int x)) μ := e_iret (by decide +kernel : decode (bOf 35) 7 = .ok (.ireturn, 1)) (by decide +kernel)
theorem c_36 : Call (d + 1) 36 [a0, a1] μ Q = Ev d 36 0 [a0, a1] [] μ Q := call_ev rfl
theorem x_36_0 : Ev d 36 0 (a0 :: .int x :: L) st μ Q = Ev d 36 1 (a0 :: .int x :: L) (.int x :: st) μ Q := e_iload_n (by decide +kernel : decode (bOf 36) 0 = .ok (.iload_n 1, 1)) rfl
theorem x_36_1 : Ev d 36 1 L (.int x :: st) μ Q = if x < iI 0 then Ev d 36 23 L st μ Q else Ev d 36 4 L st μ Q := e_if_lt (by decide +kernel : decode (bOf 36) 1 = .ok (.ifCond .lt 22, 3)) (by omega)
theorem x_36_4 : Ev d 36 4 (a0 :: .int x :: L) st μ Q = Ev d 36 5 (a0 :: .int x :: L) (.int x :: st) μ Q := e_iload_n (by decide +kernel : decode (bOf 36) 4 = .ok (.iload_n 1, 1)) rfl
theorem x_36_5 : Ev d 36 5 (.ref r :: L) st μ Q = Ev d 36 6 (.ref r :: L) (.ref r :: st) μ Q := e_aload_n (by decide +kernel : decode (bOf 36) 5 = .ok (.aload_n 0, 1)) rfl
theorem x_36_6 (h : kd t r = 3) : Ev d 36 6 L [.ref r, s0] (t, V, A, P) Q = Call d 35 [.ref r] (t, V, A, P) (fun v μ1 => Ev d 36 9 L (v.toList ++ [s0]) μ1 Q) := e_callV (a := []) (r := [s0]) (by decide +kernel : decode (bOf 36) 6 = .ok (.invokevirtual 47, 3)) (by decide +kernel) (by decide +kernel) (by decide +kernel) rfl (by simp) (by decide +kernel) h
theorem x_36_9 : Ev d 36 9 L (.int y :: .int x :: st) μ Q = if x < y then Ev d 36 12 L st μ Q else Ev d 36 23 L st μ Q := e_icmp_ge (by decide +kernel : decode (bOf 36) 9 = .ok (.if_icmp .ge 14, 3)) (by omega)
theorem x_36_12 : Ev d 36 12 (a0 :: .int x :: L) st μ Q = Ev d 36 13 (a0 :: .int x :: L) (.int x :: st) μ Q := e_iload_n (by decide +kernel : decode (bOf 36) 12 = .ok (.iload_n 1, 1)) rfl
theorem x_36_13 : Ev d 36 13 L st μ Q = Ev d 36 16 L (.int (iI 192) :: st) μ Q := e_sipush (by decide +kernel : decode (bOf 36) 13 = .ok (.sipush 192, 3)) (by decide +kernel)
theorem x_36_16 : Ev d 36 16 L (.int y :: .int x :: st) μ Q = if x < y then Ev d 36 19 L st μ Q else Ev d 36 23 L st μ Q := e_icmp_ge (by decide +kernel : decode (bOf 36) 16 = .ok (.if_icmp .ge 7, 3)) (by omega)
theorem x_36_19 : Ev d 36 19 L st μ Q = Ev d 36 20 L (.int (iI 1) :: st) μ Q := e_iconst (by decide +kernel : decode (bOf 36) 19 = .ok (.iconst 1, 1))
theorem x_36_20 : Ev d 36 20 L st μ Q = Ev d 36 24 L st μ Q := e_goto (by decide +kernel : decode (bOf 36) 20 = .ok (.goto 4, 3)) (by omega)
theorem x_36_23 : Ev d 36 23 L st μ Q = Ev d 36 24 L (.int (iI 0) :: st) μ Q := e_iconst (by decide +kernel : decode (bOf 36) 23 = .ok (.iconst 0, 1))
theorem x_36_24 (hx : isB x) : Ev d 36 24 L [.int x] μ Q = Q (some (.int x)) μ := e_zret (by decide +kernel : decode (bOf 36) 24 = .ok (.ireturn, 1)) (by decide +kernel) hx
theorem c_37 : Call (d + 1) 37 [a0, a1] μ Q = Ev d 37 0 [a0, a1] [] μ Q := call_ev rfl
theorem x_37_0 : Ev d 37 0 (.ref r :: L) st μ Q = Ev d 37 1 (.ref r :: L) (.ref r :: st) μ Q := e_aload_n (by decide +kernel : decode (bOf 37) 0 = .ok (.aload_n 0, 1)) rfl
theorem x_37_1 : Ev d 37 1 (a0 :: .int x :: L) st μ Q = Ev d 37 2 (a0 :: .int x :: L) (.int x :: st) μ Q := e_iload_n (by decide +kernel : decode (bOf 37) 1 = .ok (.iload_n 1, 1)) rfl
theorem x_37_2 (h : kd t r = 3) : Ev d 37 2 L [b0, .ref r] (t, V, A, P) Q = Call d 36 [.ref r, b0] (t, V, A, P) (fun v μ1 => Ev d 37 5 L (v.toList ++ []) μ1 Q) := e_callV (a := [b0]) (r := []) (by decide +kernel : decode (bOf 37) 2 = .ok (.invokevirtual 51, 3)) (by decide +kernel) (by decide +kernel) (by decide +kernel) rfl (by simp) (by decide +kernel) h
theorem x_37_5 : Ev d 37 5 L (.int x :: st) μ Q = if x = iI 0 then Ev d 37 8 L st μ Q else Ev d 37 10 L st μ Q := e_if_ne (by decide +kernel : decode (bOf 37) 5 = .ok (.ifCond .ne 5, 3)) (by omega)
theorem x_37_8 : Ev d 37 8 L st μ Q = Ev d 37 9 L (.int (iI 0) :: st) μ Q := e_iconst (by decide +kernel : decode (bOf 37) 8 = .ok (.iconst 0, 1))
theorem x_37_9 : Ev d 37 9 L [.int x] μ Q = Q (some (.int x)) μ := e_iret (by decide +kernel : decode (bOf 37) 9 = .ok (.ireturn, 1)) (by decide +kernel)
theorem x_37_10 : Ev d 37 10 (.ref r :: L) st μ Q = Ev d 37 11 (.ref r :: L) (.ref r :: st) μ Q := e_aload_n (by decide +kernel : decode (bOf 37) 10 = .ok (.aload_n 0, 1)) rfl
theorem x_37_11 (h : kd t r = 3) : Ev d 37 11 L (.ref r :: st) (t, V, A, P) Q = Ev d 37 14 L (V r 2 :: st) (t, V, A, P) Q := e_getf (by decide +kernel : decode (bOf 37) 11 = .ok (.getfield 18, 3)) (by decide +kernel) (by decide +kernel) h
theorem x_37_14 : Ev d 37 14 (a0 :: .int x :: L) st μ Q = Ev d 37 15 (a0 :: .int x :: L) (.int x :: st) μ Q := e_iload_n (by decide +kernel : decode (bOf 37) 14 = .ok (.iload_n 1, 1)) rfl
theorem x_37_15 : Ev d 37 15 L st μ Q = Ev d 37 17 L (.int (iI 6) :: st) μ Q := e_bipush (by decide +kernel : decode (bOf 37) 15 = .ok (.bipush 6, 2)) (by decide +kernel)
theorem x_37_17 (h : ¬ y = 0) : Ev d 37 17 L (.int y :: .int x :: st) μ Q = Ev d 37 18 L (.int (x / y) :: st) μ Q := e_idiv (by decide +kernel : decode (bOf 37) 17 = .ok (.idiv, 1)) h
theorem x_37_18 (h : kd t r = 6) (hi : inB x (ln t r) = true) : Ev d 37 18 L (.int x :: .ref r :: st) (t, V, A, P) Q = Ev d 37 19 L (.int (A r x.toNatClampNeg) :: st) (t, V, A, P) Q := e_iald (by decide +kernel : decode (bOf 37) 18 = .ok (.iaload, 1)) h hi
theorem x_37_19 : Ev d 37 19 (a0 :: .int x :: L) st μ Q = Ev d 37 20 (a0 :: .int x :: L) (.int x :: st) μ Q := e_iload_n (by decide +kernel : decode (bOf 37) 19 = .ok (.iload_n 1, 1)) rfl
theorem x_37_20 : Ev d 37 20 L [b0, s0] μ Q = Call d 39 [b0] μ (fun v μ1 => Ev d 37 23 L (v.toList ++ [s0]) μ1 Q) := e_callS (a := [b0]) (r := [s0]) (by decide +kernel : decode (bOf 37) 20 = .ok (.invokestatic 55, 3)) (by decide +kernel) (by decide +kernel) rfl (by simp)
theorem x_37_23 : Ev d 37 23 L (.int y :: .int x :: st) μ Q = Ev d 37 24 L (.int (x &&& y) :: st) μ Q := e_iand (by decide +kernel : decode (bOf 37) 23 = .ok (.iand, 1))
theorem x_37_24 : Ev d 37 24 L (.int x :: st) μ Q = if x = iI 0 then Ev d 37 27 L st μ Q else Ev d 37 31 L st μ Q := e_if_ne (by decide +kernel : decode (bOf 37) 24 = .ok (.ifCond .ne 7, 3)) (by omega)
theorem x_37_27 : Ev d 37 27 L st μ Q = Ev d 37 28 L (.int (iI 0) :: st) μ Q := e_iconst (by decide +kernel : decode (bOf 37) 27 = .ok (.iconst 0, 1))
theorem x_37_28 : Ev d 37 28 L st μ Q = Ev d 37 32 L st μ Q := e_goto (by decide +kernel : decode (bOf 37) 28 = .ok (.goto 4, 3)) (by omega)
theorem x_37_31 : Ev d 37 31 L st μ Q = Ev d 37 32 L (.int (iI 1) :: st) μ Q := e_iconst (by decide +kernel : decode (bOf 37) 31 = .ok (.iconst 1, 1))
theorem x_37_32 : Ev d 37 32 L [.int x] μ Q = Q (some (.int x)) μ := e_iret (by decide +kernel : decode (bOf 37) 32 = .ok (.ireturn, 1)) (by decide +kernel)
theorem c_38 : Call (d + 1) 38 [a0, a1] μ Q = Ev d 38 0 [a0, a1] [] μ Q := call_ev rfl
theorem x_38_0 : Ev d 38 0 (.ref r :: L) st μ Q = Ev d 38 1 (.ref r :: L) (.ref r :: st) μ Q := e_aload_n (by decide +kernel : decode (bOf 38) 0 = .ok (.aload_n 0, 1)) rfl
theorem x_38_1 : Ev d 38 1 (a0 :: .int x :: L) st μ Q = Ev d 38 2 (a0 :: .int x :: L) (.int x :: st) μ Q := e_iload_n (by decide +kernel : decode (bOf 38) 1 = .ok (.iload_n 1, 1)) rfl
theorem x_38_2 (h : kd t r = 3) : Ev d 38 2 L [b0, .ref r] (t, V, A, P) Q = Call d 36 [.ref r, b0] (t, V, A, P) (fun v μ1 => Ev d 38 5 L (v.toList ++ []) μ1 Q) := e_callV (a := [b0]) (r := []) (by decide +kernel : decode (bOf 38) 2 = .ok (.invokevirtual 51, 3)) (by decide +kernel) (by decide +kernel) (by decide +kernel) rfl (by simp) (by decide +kernel) h
theorem x_38_5 : Ev d 38 5 L (.int x :: st) μ Q = if x = iI 0 then Ev d 38 24 L st μ Q else Ev d 38 8 L st μ Q := e_if_eq (by decide +kernel : decode (bOf 38) 5 = .ok (.ifCond .eq 19, 3)) (by omega)
theorem x_38_8 : Ev d 38 8 (.ref r :: L) st μ Q = Ev d 38 9 (.ref r :: L) (.ref r :: st) μ Q := e_aload_n (by decide +kernel : decode (bOf 38) 8 = .ok (.aload_n 0, 1)) rfl
theorem x_38_9 (h : kd t r = 3) : Ev d 38 9 L (.ref r :: st) (t, V, A, P) Q = Ev d 38 12 L (V r 2 :: st) (t, V, A, P) Q := e_getf (by decide +kernel : decode (bOf 38) 9 = .ok (.getfield 18, 3)) (by decide +kernel) (by decide +kernel) h
theorem x_38_12 : Ev d 38 12 (a0 :: .int x :: L) st μ Q = Ev d 38 13 (a0 :: .int x :: L) (.int x :: st) μ Q := e_iload_n (by decide +kernel : decode (bOf 38) 12 = .ok (.iload_n 1, 1)) rfl
theorem x_38_13 : Ev d 38 13 L st μ Q = Ev d 38 15 L (.int (iI 6) :: st) μ Q := e_bipush (by decide +kernel : decode (bOf 38) 13 = .ok (.bipush 6, 2)) (by decide +kernel)
theorem x_38_15 (h : ¬ y = 0) : Ev d 38 15 L (.int y :: .int x :: st) μ Q = Ev d 38 16 L (.int (x / y) :: st) μ Q := e_idiv (by decide +kernel : decode (bOf 38) 15 = .ok (.idiv, 1)) h
theorem x_38_16 : Ev d 38 16 L (.int x :: .ref r :: st) μ Q = Ev d 38 17 L (.int x :: .ref r :: .int x :: .ref r :: st) μ Q := e_dup2 (by decide +kernel : decode (bOf 38) 16 = .ok (.dup2, 1))
theorem x_38_17 (h : kd t r = 6) (hi : inB x (ln t r) = true) : Ev d 38 17 L (.int x :: .ref r :: st) (t, V, A, P) Q = Ev d 38 18 L (.int (A r x.toNatClampNeg) :: st) (t, V, A, P) Q := e_iald (by decide +kernel : decode (bOf 38) 17 = .ok (.iaload, 1)) h hi
theorem x_38_18 : Ev d 38 18 (a0 :: .int x :: L) st μ Q = Ev d 38 19 (a0 :: .int x :: L) (.int x :: st) μ Q := e_iload_n (by decide +kernel : decode (bOf 38) 18 = .ok (.iload_n 1, 1)) rfl
theorem x_38_19 : Ev d 38 19 L [b0, s0, s1, s2] μ Q = Call d 39 [b0] μ (fun v μ1 => Ev d 38 22 L (v.toList ++ [s0, s1, s2]) μ1 Q) := e_callS (a := [b0]) (r := [s0, s1, s2]) (by decide +kernel : decode (bOf 38) 19 = .ok (.invokestatic 55, 3)) (by decide +kernel) (by decide +kernel) rfl (by simp)
theorem x_38_22 : Ev d 38 22 L (.int y :: .int x :: st) μ Q = Ev d 38 23 L (.int (x ^^^ y) :: st) μ Q := e_ixor (by decide +kernel : decode (bOf 38) 22 = .ok (.ixor, 1))
theorem x_38_23 (h : kd t r = 6) (hi : inB x (ln t r) = true) : Ev d 38 23 L (.int y :: .int x :: .ref r :: st) (t, V, A, P) Q = Ev d 38 24 L st (t, V, up1 A r (upd (A r) x.toNatClampNeg y), P) Q := e_iast (by decide +kernel : decode (bOf 38) 23 = .ok (.iastore, 1)) h hi
theorem x_38_24 : Ev d 38 24 L [] μ Q = Q none μ := e_ret (by decide +kernel : decode (bOf 38) 24 = .ok (.return_, 1)) (by decide +kernel)
theorem c_39 : Call (d + 1) 39 [a0] μ Q = Ev d 39 0 [a0] [] μ Q := call_ev rfl
theorem x_39_0 : Ev d 39 0 L st μ Q = Ev d 39 1 L (.int (iI 1) :: st) μ Q := e_iconst (by decide +kernel : decode (bOf 39) 0 = .ok (.iconst 1, 1))
theorem x_39_1 : Ev d 39 1 L st μ Q = Ev d 39 2 L (.int (iI 5) :: st) μ Q := e_iconst (by decide +kernel : decode (bOf 39) 1 = .ok (.iconst 5, 1))
theorem x_39_2 : Ev d 39 2 (.int x :: L) st μ Q = Ev d 39 3 (.int x :: L) (.int x :: st) μ Q := e_iload_n (by decide +kernel : decode (bOf 39) 2 = .ok (.iload_n 0, 1)) rfl
theorem x_39_3 : Ev d 39 3 L st μ Q = Ev d 39 5 L (.int (iI 6) :: st) μ Q := e_bipush (by decide +kernel : decode (bOf 39) 3 = .ok (.bipush 6, 2)) (by decide +kernel)
theorem x_39_5 (h : ¬ y = 0) : Ev d 39 5 L (.int y :: .int x :: st) μ Q = Ev d 39 6 L (.int (x - x / y * y) :: st) μ Q := e_irem (by decide +kernel : decode (bOf 39) 5 = .ok (.irem, 1)) h
theorem x_39_6 : Ev d 39 6 L (.int y :: .int x :: st) μ Q = Ev d 39 7 L (.int (x - y) :: st) μ Q := e_isub (by decide +kernel : decode (bOf 39) 6 = .ok (.isub, 1))
theorem x_39_7 : Ev d 39 7 L (.int y :: .int x :: st) μ Q = Ev d 39 8 L (.int (x <<< (y &&& 31)) :: st) μ Q := e_ishl (by decide +kernel : decode (bOf 39) 7 = .ok (.ishl, 1))
theorem x_39_8 : Ev d 39 8 L [.int x] μ Q = Q (some (.int x)) μ := e_iret (by decide +kernel : decode (bOf 39) 8 = .ok (.ireturn, 1)) (by decide +kernel)
theorem c_40 : Call (d + 1) 40 [a0] μ Q = Ev d 40 0 [a0, .null, .null] [] μ Q := call_ev rfl
theorem x_40_0 : Ev d 40 0 L st μ Q = Ev d 40 1 L (.int (iI 0) :: st) μ Q := e_iconst (by decide +kernel : decode (bOf 40) 0 = .ok (.iconst 0, 1))
theorem x_40_1 (h : a0.category = 1) : Ev d 40 1 (a0 :: a1 :: L) (.int x :: st) μ Q = Ev d 40 2 (a0 :: .int x :: L) st μ Q := e_istore_n (by decide +kernel : decode (bOf 40) 1 = .ok (.istore_n 1, 1)) (by simp [stOK, h])
theorem x_40_2 : Ev d 40 2 L st μ Q = Ev d 40 3 L (.int (iI 0) :: st) μ Q := e_iconst (by decide +kernel : decode (bOf 40) 2 = .ok (.iconst 0, 1))
theorem x_40_3 (h : a1.category = 1) : Ev d 40 3 (a0 :: a1 :: a2 :: L) (.int x :: st) μ Q = Ev d 40 4 (a0 :: a1 :: .int x :: L) st μ Q := e_istore_n (by decide +kernel : decode (bOf 40) 3 = .ok (.istore_n 2, 1)) (by simp [stOK, h])
theorem x_40_4 : Ev d 40 4 (a0 :: a1 :: .int x :: L) st μ Q = Ev d 40 5 (a0 :: a1 :: .int x :: L) (.int x :: st) μ Q := e_iload_n (by decide +kernel : decode (bOf 40) 4 = .ok (.iload_n 2, 1)) rfl
theorem x_40_5 : Ev d 40 5 (.ref r :: L) st μ Q = Ev d 40 6 (.ref r :: L) (.ref r :: st) μ Q := e_aload_n (by decide +kernel : decode (bOf 40) 5 = .ok (.aload_n 0, 1)) rfl
theorem x_40_6 (h : kd t r = 3) : Ev d 40 6 L (.ref r :: st) (t, V, A, P) Q = Ev d 40 9 L (V r 3 :: st) (t, V, A, P) Q := e_getf (by decide +kernel : decode (bOf 40) 6 = .ok (.getfield 21, 3)) (by decide +kernel) (by decide +kernel) h
theorem x_40_9 : Ev d 40 9 L (.int y :: .int x :: st) μ Q = if x < y then Ev d 40 12 L st μ Q else Ev d 40 36 L st μ Q := e_icmp_ge (by decide +kernel : decode (bOf 40) 9 = .ok (.if_icmp .ge 27, 3)) (by omega)
theorem x_40_12 : Ev d 40 12 (a0 :: a1 :: .int x :: L) st μ Q = Ev d 40 13 (a0 :: a1 :: .int x :: L) (.int x :: st) μ Q := e_iload_n (by decide +kernel : decode (bOf 40) 12 = .ok (.iload_n 2, 1)) rfl
theorem x_40_13 : Ev d 40 13 L st μ Q = Ev d 40 15 L (.int (iI 32) :: st) μ Q := e_bipush (by decide +kernel : decode (bOf 40) 13 = .ok (.bipush 32, 2)) (by decide +kernel)
theorem x_40_15 : Ev d 40 15 L (.int y :: .int x :: st) μ Q = if x < y then Ev d 40 18 L st μ Q else Ev d 40 36 L st μ Q := e_icmp_ge (by decide +kernel : decode (bOf 40) 15 = .ok (.if_icmp .ge 21, 3)) (by omega)
theorem x_40_18 : Ev d 40 18 (a0 :: .int x :: L) st μ Q = Ev d 40 19 (a0 :: .int x :: L) (.int x :: st) μ Q := e_iload_n (by decide +kernel : decode (bOf 40) 18 = .ok (.iload_n 1, 1)) rfl
theorem x_40_19 : Ev d 40 19 (.ref r :: L) st μ Q = Ev d 40 20 (.ref r :: L) (.ref r :: st) μ Q := e_aload_n (by decide +kernel : decode (bOf 40) 19 = .ok (.aload_n 0, 1)) rfl
theorem x_40_20 (h : kd t r = 3) : Ev d 40 20 L (.ref r :: st) (t, V, A, P) Q = Ev d 40 23 L (V r 2 :: st) (t, V, A, P) Q := e_getf (by decide +kernel : decode (bOf 40) 20 = .ok (.getfield 18, 3)) (by decide +kernel) (by decide +kernel) h
theorem x_40_23 : Ev d 40 23 (a0 :: a1 :: .int x :: L) st μ Q = Ev d 40 24 (a0 :: a1 :: .int x :: L) (.int x :: st) μ Q := e_iload_n (by decide +kernel : decode (bOf 40) 23 = .ok (.iload_n 2, 1)) rfl
theorem x_40_24 (h : kd t r = 6) (hi : inB x (ln t r) = true) : Ev d 40 24 L (.int x :: .ref r :: st) (t, V, A, P) Q = Ev d 40 25 L (.int (A r x.toNatClampNeg) :: st) (t, V, A, P) Q := e_iald (by decide +kernel : decode (bOf 40) 24 = .ok (.iaload, 1)) h hi
theorem x_40_25 : Ev d 40 25 L [b0, s0] μ Q = Call d 130 [b0] μ (fun v μ1 => Ev d 40 28 L (v.toList ++ [s0]) μ1 Q) := e_callS (a := [b0]) (r := [s0]) (by decide +kernel : decode (bOf 40) 25 = .ok (.invokestatic 59, 3)) (by decide +kernel) (by decide +kernel) rfl (by simp)
theorem x_40_28 : Ev d 40 28 L (.int y :: .int x :: st) μ Q = Ev d 40 29 L (.int (x + y) :: st) μ Q := e_iadd (by decide +kernel : decode (bOf 40) 28 = .ok (.iadd, 1))
theorem x_40_29 (h : a0.category = 1) : Ev d 40 29 (a0 :: a1 :: L) (.int x :: st) μ Q = Ev d 40 30 (a0 :: .int x :: L) st μ Q := e_istore_n (by decide +kernel : decode (bOf 40) 29 = .ok (.istore_n 1, 1)) (by simp [stOK, h])
theorem x_40_30 (h : a1.category = 1) : Ev d 40 30 (a0 :: a1 :: .int x :: L) st μ Q = Ev d 40 33 (a0 :: a1 :: .int (x + (iI 1)) :: L) st μ Q := e_iinc (by decide +kernel : decode (bOf 40) 30 = .ok (.iinc 2 1, 3)) rfl (by simp [stOK, h])
theorem x_40_33 : Ev d 40 33 L st μ Q = Ev d 40 4 L st μ Q := e_goto (by decide +kernel : decode (bOf 40) 33 = .ok (.goto (-29), 3)) (by omega)
theorem x_40_36 : Ev d 40 36 (a0 :: .int x :: L) st μ Q = Ev d 40 37 (a0 :: .int x :: L) (.int x :: st) μ Q := e_iload_n (by decide +kernel : decode (bOf 40) 36 = .ok (.iload_n 1, 1)) rfl
theorem x_40_37 : Ev d 40 37 L [.int x] μ Q = Q (some (.int x)) μ := e_iret (by decide +kernel : decode (bOf 40) 37 = .ok (.ireturn, 1)) (by decide +kernel)
theorem c_41 : Call (d + 1) 41 [a0] μ Q = Ev d 41 0 [a0, .null, .null] [] μ Q := call_ev rfl
theorem x_41_0 : Ev d 41 0 L st μ Q = Ev d 41 1 L (.int (iI 0) :: st) μ Q := e_iconst (by decide +kernel : decode (bOf 41) 0 = .ok (.iconst 0, 1))
theorem x_41_1 (h : a0.category = 1) : Ev d 41 1 (a0 :: a1 :: L) (.int x :: st) μ Q = Ev d 41 2 (a0 :: .int x :: L) st μ Q := e_istore_n (by decide +kernel : decode (bOf 41) 1 = .ok (.istore_n 1, 1)) (by simp [stOK, h])
theorem x_41_2 : Ev d 41 2 L st μ Q = Ev d 41 3 L (.int (iI 0) :: st) μ Q := e_iconst (by decide +kernel : decode (bOf 41) 2 = .ok (.iconst 0, 1))
theorem x_41_3 (h : a1.category = 1) : Ev d 41 3 (a0 :: a1 :: a2 :: L) (.int x :: st) μ Q = Ev d 41 4 (a0 :: a1 :: .int x :: L) st μ Q := e_istore_n (by decide +kernel : decode (bOf 41) 3 = .ok (.istore_n 2, 1)) (by simp [stOK, h])
theorem x_41_4 : Ev d 41 4 (a0 :: a1 :: .int x :: L) st μ Q = Ev d 41 5 (a0 :: a1 :: .int x :: L) (.int x :: st) μ Q := e_iload_n (by decide +kernel : decode (bOf 41) 4 = .ok (.iload_n 2, 1)) rfl
theorem x_41_5 : Ev d 41 5 (.ref r :: L) st μ Q = Ev d 41 6 (.ref r :: L) (.ref r :: st) μ Q := e_aload_n (by decide +kernel : decode (bOf 41) 5 = .ok (.aload_n 0, 1)) rfl
theorem x_41_6 (h : kd t r = 3) : Ev d 41 6 L (.ref r :: st) (t, V, A, P) Q = Ev d 41 9 L (V r 3 :: st) (t, V, A, P) Q := e_getf (by decide +kernel : decode (bOf 41) 6 = .ok (.getfield 21, 3)) (by decide +kernel) (by decide +kernel) h
theorem x_41_9 : Ev d 41 9 L (.int y :: .int x :: st) μ Q = if x < y then Ev d 41 12 L st μ Q else Ev d 41 43 L st μ Q := e_icmp_ge (by decide +kernel : decode (bOf 41) 9 = .ok (.if_icmp .ge 34, 3)) (by omega)
theorem x_41_12 : Ev d 41 12 (a0 :: a1 :: .int x :: L) st μ Q = Ev d 41 13 (a0 :: a1 :: .int x :: L) (.int x :: st) μ Q := e_iload_n (by decide +kernel : decode (bOf 41) 12 = .ok (.iload_n 2, 1)) rfl
theorem x_41_13 : Ev d 41 13 L st μ Q = Ev d 41 15 L (.int (iI 32) :: st) μ Q := e_bipush (by decide +kernel : decode (bOf 41) 13 = .ok (.bipush 32, 2)) (by decide +kernel)
theorem x_41_15 : Ev d 41 15 L (.int y :: .int x :: st) μ Q = if x < y then Ev d 41 18 L st μ Q else Ev d 41 43 L st μ Q := e_icmp_ge (by decide +kernel : decode (bOf 41) 15 = .ok (.if_icmp .ge 28, 3)) (by omega)
theorem x_41_18 : Ev d 41 18 (a0 :: .int x :: L) st μ Q = Ev d 41 19 (a0 :: .int x :: L) (.int x :: st) μ Q := e_iload_n (by decide +kernel : decode (bOf 41) 18 = .ok (.iload_n 1, 1)) rfl
theorem x_41_19 : Ev d 41 19 (.ref r :: L) st μ Q = Ev d 41 20 (.ref r :: L) (.ref r :: st) μ Q := e_aload_n (by decide +kernel : decode (bOf 41) 19 = .ok (.aload_n 0, 1)) rfl
theorem x_41_20 (h : kd t r = 3) : Ev d 41 20 L (.ref r :: st) (t, V, A, P) Q = Ev d 41 23 L (V r 2 :: st) (t, V, A, P) Q := e_getf (by decide +kernel : decode (bOf 41) 20 = .ok (.getfield 18, 3)) (by decide +kernel) (by decide +kernel) h
theorem x_41_23 : Ev d 41 23 (a0 :: a1 :: .int x :: L) st μ Q = Ev d 41 24 (a0 :: a1 :: .int x :: L) (.int x :: st) μ Q := e_iload_n (by decide +kernel : decode (bOf 41) 23 = .ok (.iload_n 2, 1)) rfl
theorem x_41_24 (h : kd t r = 6) (hi : inB x (ln t r) = true) : Ev d 41 24 L (.int x :: .ref r :: st) (t, V, A, P) Q = Ev d 41 25 L (.int (A r x.toNatClampNeg) :: st) (t, V, A, P) Q := e_iald (by decide +kernel : decode (bOf 41) 24 = .ok (.iaload, 1)) h hi
theorem x_41_25 : Ev d 41 25 (.ref r :: L) st μ Q = Ev d 41 26 (.ref r :: L) (.ref r :: st) μ Q := e_aload_n (by decide +kernel : decode (bOf 41) 25 = .ok (.aload_n 0, 1)) rfl
theorem x_41_26 (h : kd t r = 3) : Ev d 41 26 L (.ref r :: st) (t, V, A, P) Q = Ev d 41 29 L (V r 1 :: st) (t, V, A, P) Q := e_getf (by decide +kernel : decode (bOf 41) 26 = .ok (.getfield 15, 3)) (by decide +kernel) (by decide +kernel) h
theorem x_41_29 : Ev d 41 29 (a0 :: a1 :: .int x :: L) st μ Q = Ev d 41 30 (a0 :: a1 :: .int x :: L) (.int x :: st) μ Q := e_iload_n (by decide +kernel : decode (bOf 41) 29 = .ok (.iload_n 2, 1)) rfl
theorem x_41_30 (h : kd t r = 6) (hi : inB x (ln t r) = true) : Ev d 41 30 L (.int x :: .ref r :: st) (t, V, A, P) Q = Ev d 41 31 L (.int (A r x.toNatClampNeg) :: st) (t, V, A, P) Q := e_iald (by decide +kernel : decode (bOf 41) 30 = .ok (.iaload, 1)) h hi
theorem x_41_31 : Ev d 41 31 L (.int y :: .int x :: st) μ Q = Ev d 41 32 L (.int (x ^^^ y) :: st) μ Q := e_ixor (by decide +kernel : decode (bOf 41) 31 = .ok (.ixor, 1))
theorem x_41_32 : Ev d 41 32 L [b0, s0] μ Q = Call d 130 [b0] μ (fun v μ1 => Ev d 41 35 L (v.toList ++ [s0]) μ1 Q) := e_callS (a := [b0]) (r := [s0]) (by decide +kernel : decode (bOf 41) 32 = .ok (.invokestatic 59, 3)) (by decide +kernel) (by decide +kernel) rfl (by simp)
theorem x_41_35 : Ev d 41 35 L (.int y :: .int x :: st) μ Q = Ev d 41 36 L (.int (x + y) :: st) μ Q := e_iadd (by decide +kernel : decode (bOf 41) 35 = .ok (.iadd, 1))
theorem x_41_36 (h : a0.category = 1) : Ev d 41 36 (a0 :: a1 :: L) (.int x :: st) μ Q = Ev d 41 37 (a0 :: .int x :: L) st μ Q := e_istore_n (by decide +kernel : decode (bOf 41) 36 = .ok (.istore_n 1, 1)) (by simp [stOK, h])
theorem x_41_37 (h : a1.category = 1) : Ev d 41 37 (a0 :: a1 :: .int x :: L) st μ Q = Ev d 41 40 (a0 :: a1 :: .int (x + (iI 1)) :: L) st μ Q := e_iinc (by decide +kernel : decode (bOf 41) 37 = .ok (.iinc 2 1, 3)) rfl (by simp [stOK, h])
theorem x_41_40 : Ev d 41 40 L st μ Q = Ev d 41 4 L st μ Q := e_goto (by decide +kernel : decode (bOf 41) 40 = .ok (.goto (-36), 3)) (by omega)
theorem x_41_43 : Ev d 41 43 (a0 :: .int x :: L) st μ Q = Ev d 41 44 (a0 :: .int x :: L) (.int x :: st) μ Q := e_iload_n (by decide +kernel : decode (bOf 41) 43 = .ok (.iload_n 1, 1)) rfl
theorem x_41_44 : Ev d 41 44 L [.int x] μ Q = Q (some (.int x)) μ := e_iret (by decide +kernel : decode (bOf 41) 44 = .ok (.ireturn, 1)) (by decide +kernel)
theorem c_42 : Call (d + 1) 42 [a0] μ Q = Ev d 42 0 [a0, .null, .null] [] μ Q := call_ev rfl
theorem x_42_0 : Ev d 42 0 L st μ Q = Ev d 42 1 L (.int (iI 0) :: st) μ Q := e_iconst (by decide +kernel : decode (bOf 42) 0 = .ok (.iconst 0, 1))
theorem x_42_1 (h : a0.category = 1) : Ev d 42 1 (a0 :: a1 :: L) (.int x :: st) μ Q = Ev d 42 2 (a0 :: .int x :: L) st μ Q := e_istore_n (by decide +kernel : decode (bOf 42) 1 = .ok (.istore_n 1, 1)) (by simp [stOK, h])
theorem x_42_2 : Ev d 42 2 L st μ Q = Ev d 42 3 L (.int (iI 0) :: st) μ Q := e_iconst (by decide +kernel : decode (bOf 42) 2 = .ok (.iconst 0, 1))
theorem x_42_3 (h : a1.category = 1) : Ev d 42 3 (a0 :: a1 :: a2 :: L) (.int x :: st) μ Q = Ev d 42 4 (a0 :: a1 :: .int x :: L) st μ Q := e_istore_n (by decide +kernel : decode (bOf 42) 3 = .ok (.istore_n 2, 1)) (by simp [stOK, h])
theorem x_42_4 : Ev d 42 4 (a0 :: a1 :: .int x :: L) st μ Q = Ev d 42 5 (a0 :: a1 :: .int x :: L) (.int x :: st) μ Q := e_iload_n (by decide +kernel : decode (bOf 42) 4 = .ok (.iload_n 2, 1)) rfl
theorem x_42_5 : Ev d 42 5 (.ref r :: L) st μ Q = Ev d 42 6 (.ref r :: L) (.ref r :: st) μ Q := e_aload_n (by decide +kernel : decode (bOf 42) 5 = .ok (.aload_n 0, 1)) rfl
theorem x_42_6 (h : kd t r = 3) : Ev d 42 6 L (.ref r :: st) (t, V, A, P) Q = Ev d 42 9 L (V r 3 :: st) (t, V, A, P) Q := e_getf (by decide +kernel : decode (bOf 42) 6 = .ok (.getfield 21, 3)) (by decide +kernel) (by decide +kernel) h
theorem x_42_9 : Ev d 42 9 L (.int y :: .int x :: st) μ Q = if x < y then Ev d 42 12 L st μ Q else Ev d 42 38 L st μ Q := e_icmp_ge (by decide +kernel : decode (bOf 42) 9 = .ok (.if_icmp .ge 29, 3)) (by omega)
theorem x_42_12 : Ev d 42 12 (a0 :: a1 :: .int x :: L) st μ Q = Ev d 42 13 (a0 :: a1 :: .int x :: L) (.int x :: st) μ Q := e_iload_n (by decide +kernel : decode (bOf 42) 12 = .ok (.iload_n 2, 1)) rfl
theorem x_42_13 : Ev d 42 13 L st μ Q = Ev d 42 15 L (.int (iI 32) :: st) μ Q := e_bipush (by decide +kernel : decode (bOf 42) 13 = .ok (.bipush 32, 2)) (by decide +kernel)
theorem x_42_15 : Ev d 42 15 L (.int y :: .int x :: st) μ Q = if x < y then Ev d 42 18 L st μ Q else Ev d 42 38 L st μ Q := e_icmp_ge (by decide +kernel : decode (bOf 42) 15 = .ok (.if_icmp .ge 23, 3)) (by omega)
theorem x_42_18 : Ev d 42 18 (.ref r :: L) st μ Q = Ev d 42 19 (.ref r :: L) (.ref r :: st) μ Q := e_aload_n (by decide +kernel : decode (bOf 42) 18 = .ok (.aload_n 0, 1)) rfl
theorem x_42_19 (h : kd t r = 3) : Ev d 42 19 L (.ref r :: st) (t, V, A, P) Q = Ev d 42 22 L (V r 0 :: st) (t, V, A, P) Q := e_getf (by decide +kernel : decode (bOf 42) 19 = .ok (.getfield 9, 3)) (by decide +kernel) (by decide +kernel) h
theorem x_42_22 : Ev d 42 22 (a0 :: a1 :: .int x :: L) st μ Q = Ev d 42 23 (a0 :: a1 :: .int x :: L) (.int x :: st) μ Q := e_iload_n (by decide +kernel : decode (bOf 42) 22 = .ok (.iload_n 2, 1)) rfl
theorem x_42_23 (h : kd t r = 6) (hi : inB x (ln t r) = true) : Ev d 42 23 L (.int x :: .ref r :: st) (t, V, A, P) Q = Ev d 42 24 L (.int (A r x.toNatClampNeg) :: st) (t, V, A, P) Q := e_iald (by decide +kernel : decode (bOf 42) 23 = .ok (.iaload, 1)) h hi
theorem x_42_24 : Ev d 42 24 L st μ Q = Ev d 42 26 L (.int (iI 31) :: st) μ Q := e_bipush (by decide +kernel : decode (bOf 42) 24 = .ok (.bipush 31, 2)) (by decide +kernel)
theorem x_42_26 : Ev d 42 26 L (.int y :: .int x :: st) μ Q = if x < y then Ev d 42 32 L st μ Q else Ev d 42 29 L st μ Q := e_icmp_lt (by decide +kernel : decode (bOf 42) 26 = .ok (.if_icmp .lt 6, 3)) (by omega)
theorem x_42_29 (h : a0.category = 1) : Ev d 42 29 (a0 :: .int x :: L) st μ Q = Ev d 42 32 (a0 :: .int (x + (iI 1)) :: L) st μ Q := e_iinc (by decide +kernel : decode (bOf 42) 29 = .ok (.iinc 1 1, 3)) rfl (by simp [stOK, h])
theorem x_42_32 (h : a1.category = 1) : Ev d 42 32 (a0 :: a1 :: .int x :: L) st μ Q = Ev d 42 35 (a0 :: a1 :: .int (x + (iI 1)) :: L) st μ Q := e_iinc (by decide +kernel : decode (bOf 42) 32 = .ok (.iinc 2 1, 3)) rfl (by simp [stOK, h])
theorem x_42_35 : Ev d 42 35 L st μ Q = Ev d 42 4 L st μ Q := e_goto (by decide +kernel : decode (bOf 42) 35 = .ok (.goto (-31), 3)) (by omega)
theorem x_42_38 : Ev d 42 38 (a0 :: .int x :: L) st μ Q = Ev d 42 39 (a0 :: .int x :: L) (.int x :: st) μ Q := e_iload_n (by decide +kernel : decode (bOf 42) 38 = .ok (.iload_n 1, 1)) rfl
theorem x_42_39 : Ev d 42 39 L [.int x] μ Q = Q (some (.int x)) μ := e_iret (by decide +kernel : decode (bOf 42) 39 = .ok (.ireturn, 1)) (by decide +kernel)
end Xb
