section Xc
variable {d : Nat} {L st : List Value} {μ : mM} {Q : Option Value → mM → Prop} {t : mL} {V : Nat → Nat → Value} {A : Nat → Nat → Int32} {P : Nat → Nat → Option Nat} {N S : Nat} {K : Nat → Nat × Nat}
variable {a0 a1 a2 a3 a4 a5 a6 a7 a8 a9 a10 a11 a12 b0 b1 b2 b3 s0 s1 s2 s3 : Value} {x y i0 i1 i2 i3 i4 : Int32} {w z w2 : Int64} {r q r0 r1 r2 : Nat}
theorem c_40 : Call (d + 1) 40 [.ref r0] μ Q = Ev d 40 0 [.ref r0, .null] [] μ Q := call_ev rfl rfl 
theorem x_40_0 : Ev d 40 0 (.ref r :: L) st μ Q = Ev d 40 1 (.ref r :: L) (.ref r :: st) μ Q := e_aload_n (by decide +kernel : decode (bOf 40) 0 = .ok (.aload_n 0, 1)) rfl
theorem x_40_1 : Ev d 40 1 L [.ref r] μ Q = Ev d 40 4 L [] μ Q := e_obj (by decide +kernel : decode (bOf 40) 1 = .ok (.invokespecial 3, 3)) (by decide +kernel) (by decide +kernel) (by simp)
theorem x_40_4 : Ev d 40 4 (.ref r :: L) st μ Q = Ev d 40 5 (.ref r :: L) (.ref r :: st) μ Q := e_aload_n (by decide +kernel : decode (bOf 40) 4 = .ok (.aload_n 0, 1)) rfl
theorem x_40_5 : Ev d 40 5 L st ((N, S, K), V, A, P) Q = Ev d 40 8 L (.ref N :: st) ((N + 1, S + 7, up1 K N (3, 7)), up1 V N (rw' [.null, .null, .null, .int 0, .int 0, .int 0, .int 0]), A, P) Q := e_new 7 [.null, .null, .null, .int 0, .int 0, .int 0, .int 0] (by decide +kernel : decode (bOf 40) 5 = .ok (.new 9, 3)) (by decide +kernel) (by decide +kernel) (by decide +kernel) (by decide +kernel)
theorem x_40_8 : Ev d 40 8 L (.ref r :: st) μ Q = Ev d 40 9 L (.ref r :: .ref r :: st) μ Q := e_dup_a (by decide +kernel : decode (bOf 40) 8 = .ok (.dup, 1))
theorem x_40_9 : Ev d 40 9 L [.ref r, s0, s1] μ Q = Call d 26 [.ref r] μ (fun v μ1 => Ev d 40 12 L (v.toList ++ [s0, s1]) μ1 Q) := e_callI (a := []) (r := [s0, s1]) (by decide +kernel : decode (bOf 40) 9 = .ok (.invokespecial 11, 3)) (by decide +kernel) (by decide +kernel) (by decide +kernel) (by decide +kernel) (by omega) rfl (by simp)
theorem x_40_12 (h : kd t r = 4) : Ev d 40 12 L (.ref q :: .ref r :: st) (t, V, A, P) Q = Ev d 40 15 L st (t, up1 V r (up1 (V r) 0 (.ref q)), A, P) Q := e_putf (by decide +kernel : decode (bOf 40) 12 = .ok (.putfield 12, 3)) (by decide +kernel) (by decide +kernel) rfl h
theorem x_40_15 : Ev d 40 15 (.ref r :: L) st μ Q = Ev d 40 16 (.ref r :: L) (.ref r :: st) μ Q := e_aload_n (by decide +kernel : decode (bOf 40) 15 = .ok (.aload_n 0, 1)) rfl
theorem x_40_16 : Ev d 40 16 L st μ Q = Ev d 40 18 L (.int (iI 6) :: st) μ Q := e_bipush (by decide +kernel : decode (bOf 40) 16 = .ok (.bipush 6, 2)) (by decide +kernel)
theorem x_40_18 : Ev d 40 18 L (.int (iI 6) :: st) ((N, S, K), V, A, P) Q = Ev d 40 21 L (.ref N :: st) ((N + 1, S + 6, up1 K N (9, 6)), V, A, up1 P N (fun _ => none)) Q := e_newq 6 (by decide +kernel : decode (bOf 40) 18 = .ok (.anewarray 9, 3)) (by decide +kernel) (by decide +kernel) (by decide +kernel)
theorem x_40_21 (h : kd t r = 4) : Ev d 40 21 L (.ref q :: .ref r :: st) (t, V, A, P) Q = Ev d 40 24 L st (t, up1 V r (up1 (V r) 1 (.ref q)), A, P) Q := e_putf (by decide +kernel : decode (bOf 40) 21 = .ok (.putfield 16, 3)) (by decide +kernel) (by decide +kernel) rfl h
theorem x_40_24 : Ev d 40 24 (.ref r :: L) st μ Q = Ev d 40 25 (.ref r :: L) (.ref r :: st) μ Q := e_aload_n (by decide +kernel : decode (bOf 40) 24 = .ok (.aload_n 0, 1)) rfl
theorem x_40_25 : Ev d 40 25 L st μ Q = Ev d 40 26 L (.int (iI 2) :: st) μ Q := e_iconst (by decide +kernel : decode (bOf 40) 25 = .ok (.iconst 2, 1))
theorem x_40_26 : Ev d 40 26 L (.int (iI 2) :: st) ((N, S, K), V, A, P) Q = Ev d 40 29 L (.ref N :: st) ((N + 1, S + 2, up1 K N (9, 2)), V, A, up1 P N (fun _ => none)) Q := e_newq 2 (by decide +kernel : decode (bOf 40) 26 = .ok (.anewarray 9, 3)) (by decide +kernel) (by decide +kernel) (by decide +kernel)
theorem x_40_29 (h : kd t r = 4) : Ev d 40 29 L (.ref q :: .ref r :: st) (t, V, A, P) Q = Ev d 40 32 L st (t, up1 V r (up1 (V r) 2 (.ref q)), A, P) Q := e_putf (by decide +kernel : decode (bOf 40) 29 = .ok (.putfield 20, 3)) (by decide +kernel) (by decide +kernel) rfl h
theorem x_40_32 : Ev d 40 32 (.ref r :: L) st μ Q = Ev d 40 33 (.ref r :: L) (.ref r :: st) μ Q := e_aload_n (by decide +kernel : decode (bOf 40) 32 = .ok (.aload_n 0, 1)) rfl
theorem x_40_33 : Ev d 40 33 L st μ Q = Ev d 40 34 L (.int (iI 2) :: st) μ Q := e_iconst (by decide +kernel : decode (bOf 40) 33 = .ok (.iconst 2, 1))
theorem x_40_34 : Ev d 40 34 L (.int (iI 2) :: st) ((N, S, K), V, A, P) Q = Ev d 40 36 L (.ref N :: st) ((N + 1, S + 2, up1 K N (7, 2)), V, up1 A N (fun _ => 0), P) Q := e_newz 2 (by decide +kernel : decode (bOf 40) 34 = .ok (.newarray .boolean, 2)) (by decide +kernel) (by decide +kernel)
theorem x_40_36 (h : kd t r = 4) : Ev d 40 36 L (.ref q :: .ref r :: st) (t, V, A, P) Q = Ev d 40 39 L st (t, up1 V r (up1 (V r) 3 (.ref q)), A, P) Q := e_putf (by decide +kernel : decode (bOf 40) 36 = .ok (.putfield 23, 3)) (by decide +kernel) (by decide +kernel) rfl h
theorem x_40_39 : Ev d 40 39 (.ref r :: L) st μ Q = Ev d 40 40 (.ref r :: L) (.ref r :: st) μ Q := e_aload_n (by decide +kernel : decode (bOf 40) 39 = .ok (.aload_n 0, 1)) rfl
theorem x_40_40 : Ev d 40 40 L st μ Q = Ev d 40 42 L (.int (iI 120) :: st) μ Q := e_bipush (by decide +kernel : decode (bOf 40) 40 = .ok (.bipush 120, 2)) (by decide +kernel)
theorem x_40_42 : Ev d 40 42 L (.int (iI 120) :: st) ((N, S, K), V, A, P) Q = Ev d 40 44 L (.ref N :: st) ((N + 1, S + 120, up1 K N (6, 120)), V, up1 A N (fun _ => 0), P) Q := e_newi 120 (by decide +kernel : decode (bOf 40) 42 = .ok (.newarray .int, 2)) (by decide +kernel) (by decide +kernel)
theorem x_40_44 (h : kd t r = 4) : Ev d 40 44 L (.ref q :: .ref r :: st) (t, V, A, P) Q = Ev d 40 47 L st (t, up1 V r (up1 (V r) 4 (.ref q)), A, P) Q := e_putf (by decide +kernel : decode (bOf 40) 44 = .ok (.putfield 27, 3)) (by decide +kernel) (by decide +kernel) rfl h
theorem x_40_47 : Ev d 40 47 (.ref r :: L) st μ Q = Ev d 40 48 (.ref r :: L) (.ref r :: st) μ Q := e_aload_n (by decide +kernel : decode (bOf 40) 47 = .ok (.aload_n 0, 1)) rfl
theorem x_40_48 : Ev d 40 48 L st μ Q = Ev d 40 50 L (.int (iI 40) :: st) μ Q := e_bipush (by decide +kernel : decode (bOf 40) 48 = .ok (.bipush 40, 2)) (by decide +kernel)
theorem x_40_50 : Ev d 40 50 L (.int (iI 40) :: st) ((N, S, K), V, A, P) Q = Ev d 40 52 L (.ref N :: st) ((N + 1, S + 40, up1 K N (6, 40)), V, up1 A N (fun _ => 0), P) Q := e_newi 40 (by decide +kernel : decode (bOf 40) 50 = .ok (.newarray .int, 2)) (by decide +kernel) (by decide +kernel)
theorem x_40_52 (h : kd t r = 4) : Ev d 40 52 L (.ref q :: .ref r :: st) (t, V, A, P) Q = Ev d 40 55 L st (t, up1 V r (up1 (V r) 5 (.ref q)), A, P) Q := e_putf (by decide +kernel : decode (bOf 40) 52 = .ok (.putfield 31, 3)) (by decide +kernel) (by decide +kernel) rfl h
theorem x_40_55 : Ev d 40 55 (.ref r :: L) st μ Q = Ev d 40 56 (.ref r :: L) (.ref r :: st) μ Q := e_aload_n (by decide +kernel : decode (bOf 40) 55 = .ok (.aload_n 0, 1)) rfl
theorem x_40_56 : Ev d 40 56 L st ((N, S, K), V, A, P) Q = Ev d 40 59 L (.ref N :: st) ((N + 1, S + 10, up1 K N (1, 10)), up1 V N (rw' [.null, .null, .null, .int 0, .int 0, .int 0, .int 0, .int 0, .int 0, .int 0]), A, P) Q := e_new 10 [.null, .null, .null, .int 0, .int 0, .int 0, .int 0, .int 0, .int 0, .int 0] (by decide +kernel : decode (bOf 40) 56 = .ok (.new 34, 3)) (by decide +kernel) (by decide +kernel) (by decide +kernel) (by decide +kernel)
theorem x_40_59 : Ev d 40 59 L (.ref r :: st) μ Q = Ev d 40 60 L (.ref r :: .ref r :: st) μ Q := e_dup_a (by decide +kernel : decode (bOf 40) 59 = .ok (.dup, 1))
theorem x_40_60 : Ev d 40 60 L [.ref r, s0, s1] μ Q = Call d 10 [.ref r] μ (fun v μ1 => Ev d 40 63 L (v.toList ++ [s0, s1]) μ1 Q) := e_callI (a := []) (r := [s0, s1]) (by decide +kernel : decode (bOf 40) 60 = .ok (.invokespecial 36, 3)) (by decide +kernel) (by decide +kernel) (by decide +kernel) (by decide +kernel) (by omega) rfl (by simp)
theorem x_40_63 (h : kd t r = 4) : Ev d 40 63 L (.ref q :: .ref r :: st) (t, V, A, P) Q = Ev d 40 66 L st (t, up1 V r (up1 (V r) 6 (.ref q)), A, P) Q := e_putf (by decide +kernel : decode (bOf 40) 63 = .ok (.putfield 37, 3)) (by decide +kernel) (by decide +kernel) rfl h
theorem x_40_66 : Ev d 40 66 (.ref r :: L) st μ Q = Ev d 40 67 (.ref r :: L) (.ref r :: st) μ Q := e_aload_n (by decide +kernel : decode (bOf 40) 66 = .ok (.aload_n 0, 1)) rfl
theorem x_40_67 : Ev d 40 67 L st ((N, S, K), V, A, P) Q = Ev d 40 70 L (.ref N :: st) ((N + 1, S + 6, up1 K N (0, 6)), up1 V N (rw' [.null, .null, .null, .null, .int 0, .int 0]), A, P) Q := e_new 6 [.null, .null, .null, .null, .int 0, .int 0] (by decide +kernel : decode (bOf 40) 67 = .ok (.new 41, 3)) (by decide +kernel) (by decide +kernel) (by decide +kernel) (by decide +kernel)
theorem x_40_70 : Ev d 40 70 L (.ref r :: st) μ Q = Ev d 40 71 L (.ref r :: .ref r :: st) μ Q := e_dup_a (by decide +kernel : decode (bOf 40) 70 = .ok (.dup, 1))
theorem x_40_71 : Ev d 40 71 L [.ref r, s0, s1] μ Q = Call d 4 [.ref r] μ (fun v μ1 => Ev d 40 74 L (v.toList ++ [s0, s1]) μ1 Q) := e_callI (a := []) (r := [s0, s1]) (by decide +kernel : decode (bOf 40) 71 = .ok (.invokespecial 43, 3)) (by decide +kernel) (by decide +kernel) (by decide +kernel) (by decide +kernel) (by omega) rfl (by simp)
theorem x_40_74 (h : kd t r = 4) : Ev d 40 74 L (.ref q :: .ref r :: st) (t, V, A, P) Q = Ev d 40 77 L st (t, up1 V r (up1 (V r) 7 (.ref q)), A, P) Q := e_putf (by decide +kernel : decode (bOf 40) 74 = .ok (.putfield 44, 3)) (by decide +kernel) (by decide +kernel) rfl h
theorem x_40_77 : Ev d 40 77 (.ref r :: L) st μ Q = Ev d 40 78 (.ref r :: L) (.ref r :: st) μ Q := e_aload_n (by decide +kernel : decode (bOf 40) 77 = .ok (.aload_n 0, 1)) rfl
theorem x_40_78 : Ev d 40 78 L st ((N, S, K), V, A, P) Q = Ev d 40 81 L (.ref N :: st) ((N + 1, S + 5, up1 K N (2, 5)), up1 V N (rw' [.int 0, .int 0, .int 0, .int 0, .int 0]), A, P) Q := e_new 5 [.int 0, .int 0, .int 0, .int 0, .int 0] (by decide +kernel : decode (bOf 40) 78 = .ok (.new 48, 3)) (by decide +kernel) (by decide +kernel) (by decide +kernel) (by decide +kernel)
theorem x_40_81 : Ev d 40 81 L (.ref r :: st) μ Q = Ev d 40 82 L (.ref r :: .ref r :: st) μ Q := e_dup_a (by decide +kernel : decode (bOf 40) 81 = .ok (.dup, 1))
theorem x_40_82 : Ev d 40 82 L [.ref r, s0, s1] μ Q = Call d 20 [.ref r] μ (fun v μ1 => Ev d 40 85 L (v.toList ++ [s0, s1]) μ1 Q) := e_callI (a := []) (r := [s0, s1]) (by decide +kernel : decode (bOf 40) 82 = .ok (.invokespecial 50, 3)) (by decide +kernel) (by decide +kernel) (by decide +kernel) (by decide +kernel) (by omega) rfl (by simp)
theorem x_40_85 (h : kd t r = 4) : Ev d 40 85 L (.ref q :: .ref r :: st) (t, V, A, P) Q = Ev d 40 88 L st (t, up1 V r (up1 (V r) 8 (.ref q)), A, P) Q := e_putf (by decide +kernel : decode (bOf 40) 85 = .ok (.putfield 51, 3)) (by decide +kernel) (by decide +kernel) rfl h
theorem x_40_88 : Ev d 40 88 L st μ Q = Ev d 40 89 L (.int (iI 0) :: st) μ Q := e_iconst (by decide +kernel : decode (bOf 40) 88 = .ok (.iconst 0, 1))
theorem x_40_89 (h : a0.category = 1) : Ev d 40 89 (a0 :: a1 :: L) (.int x :: st) μ Q = Ev d 40 90 (a0 :: .int x :: L) st μ Q := e_istore_n (by decide +kernel : decode (bOf 40) 89 = .ok (.istore_n 1, 1)) (by show stOK _ 1 = true; simp [stOK, h])
theorem x_40_90 : Ev d 40 90 (a0 :: .int x :: L) st μ Q = Ev d 40 91 (a0 :: .int x :: L) (.int x :: st) μ Q := e_iload_n (by decide +kernel : decode (bOf 40) 90 = .ok (.iload_n 1, 1)) rfl
theorem x_40_91 : Ev d 40 91 L st μ Q = Ev d 40 93 L (.int (iI 6) :: st) μ Q := e_bipush (by decide +kernel : decode (bOf 40) 91 = .ok (.bipush 6, 2)) (by decide +kernel)
theorem x_40_93 : Ev d 40 93 L (.int y :: .int x :: st) μ Q = if x < y then Ev d 40 96 L st μ Q else Ev d 40 115 L st μ Q := e_icmp_ge (by decide +kernel : decode (bOf 40) 93 = .ok (.if_icmp .ge 22, 3)) (by omega)
theorem x_40_96 : Ev d 40 96 (.ref r :: L) st μ Q = Ev d 40 97 (.ref r :: L) (.ref r :: st) μ Q := e_aload_n (by decide +kernel : decode (bOf 40) 96 = .ok (.aload_n 0, 1)) rfl
theorem x_40_97 (h : kd t r = 4) : Ev d 40 97 L (.ref r :: st) (t, V, A, P) Q = Ev d 40 100 L (V r 1 :: st) (t, V, A, P) Q := e_getf (by decide +kernel : decode (bOf 40) 97 = .ok (.getfield 16, 3)) (by decide +kernel) (by decide +kernel) h
theorem x_40_100 : Ev d 40 100 (a0 :: .int x :: L) st μ Q = Ev d 40 101 (a0 :: .int x :: L) (.int x :: st) μ Q := e_iload_n (by decide +kernel : decode (bOf 40) 100 = .ok (.iload_n 1, 1)) rfl
theorem x_40_101 : Ev d 40 101 L st ((N, S, K), V, A, P) Q = Ev d 40 104 L (.ref N :: st) ((N + 1, S + 7, up1 K N (3, 7)), up1 V N (rw' [.null, .null, .null, .int 0, .int 0, .int 0, .int 0]), A, P) Q := e_new 7 [.null, .null, .null, .int 0, .int 0, .int 0, .int 0] (by decide +kernel : decode (bOf 40) 101 = .ok (.new 9, 3)) (by decide +kernel) (by decide +kernel) (by decide +kernel) (by decide +kernel)
theorem x_40_104 : Ev d 40 104 L (.ref r :: st) μ Q = Ev d 40 105 L (.ref r :: .ref r :: st) μ Q := e_dup_a (by decide +kernel : decode (bOf 40) 104 = .ok (.dup, 1))
theorem x_40_105 : Ev d 40 105 L [.ref r, s0, s1, s2] μ Q = Call d 26 [.ref r] μ (fun v μ1 => Ev d 40 108 L (v.toList ++ [s0, s1, s2]) μ1 Q) := e_callI (a := []) (r := [s0, s1, s2]) (by decide +kernel : decode (bOf 40) 105 = .ok (.invokespecial 11, 3)) (by decide +kernel) (by decide +kernel) (by decide +kernel) (by decide +kernel) (by omega) rfl (by simp)
theorem x_40_108 (h : kd t r = 9) (hv : kd t q = 3) (hi : inB x (ln t r) = true) : Ev d 40 108 L (.ref q :: .int x :: .ref r :: st) (t, V, A, P) Q = Ev d 40 109 L st (t, V, A, up1 P r (up1 (P r) x.toNatClampNeg (some q))) Q := e_aast9 (by decide +kernel : decode (bOf 40) 108 = .ok (.aastore, 1)) h hv hi
theorem x_40_109 (h : a0.category = 1) : Ev d 40 109 (a0 :: .int x :: L) st μ Q = Ev d 40 112 (a0 :: .int (x + (iI 1)) :: L) st μ Q := e_iinc (by decide +kernel : decode (bOf 40) 109 = .ok (.iinc 1 1, 3)) rfl (by simp [stOK, h])
theorem x_40_112 : Ev d 40 112 L st μ Q = Ev d 40 90 L st μ Q := e_goto (by decide +kernel : decode (bOf 40) 112 = .ok (.goto (-22), 3)) (by omega)
theorem x_40_115 : Ev d 40 115 L st μ Q = Ev d 40 116 L (.int (iI 0) :: st) μ Q := e_iconst (by decide +kernel : decode (bOf 40) 115 = .ok (.iconst 0, 1))
theorem x_40_116 (h : a0.category = 1) : Ev d 40 116 (a0 :: a1 :: L) (.int x :: st) μ Q = Ev d 40 117 (a0 :: .int x :: L) st μ Q := e_istore_n (by decide +kernel : decode (bOf 40) 116 = .ok (.istore_n 1, 1)) (by show stOK _ 1 = true; simp [stOK, h])
theorem x_40_117 : Ev d 40 117 (a0 :: .int x :: L) st μ Q = Ev d 40 118 (a0 :: .int x :: L) (.int x :: st) μ Q := e_iload_n (by decide +kernel : decode (bOf 40) 117 = .ok (.iload_n 1, 1)) rfl
theorem x_40_118 : Ev d 40 118 L st μ Q = Ev d 40 119 L (.int (iI 2) :: st) μ Q := e_iconst (by decide +kernel : decode (bOf 40) 118 = .ok (.iconst 2, 1))
theorem x_40_119 : Ev d 40 119 L (.int y :: .int x :: st) μ Q = if x < y then Ev d 40 122 L st μ Q else Ev d 40 141 L st μ Q := e_icmp_ge (by decide +kernel : decode (bOf 40) 119 = .ok (.if_icmp .ge 22, 3)) (by omega)
theorem x_40_122 : Ev d 40 122 (.ref r :: L) st μ Q = Ev d 40 123 (.ref r :: L) (.ref r :: st) μ Q := e_aload_n (by decide +kernel : decode (bOf 40) 122 = .ok (.aload_n 0, 1)) rfl
theorem x_40_123 (h : kd t r = 4) : Ev d 40 123 L (.ref r :: st) (t, V, A, P) Q = Ev d 40 126 L (V r 2 :: st) (t, V, A, P) Q := e_getf (by decide +kernel : decode (bOf 40) 123 = .ok (.getfield 20, 3)) (by decide +kernel) (by decide +kernel) h
theorem x_40_126 : Ev d 40 126 (a0 :: .int x :: L) st μ Q = Ev d 40 127 (a0 :: .int x :: L) (.int x :: st) μ Q := e_iload_n (by decide +kernel : decode (bOf 40) 126 = .ok (.iload_n 1, 1)) rfl
theorem x_40_127 : Ev d 40 127 L st ((N, S, K), V, A, P) Q = Ev d 40 130 L (.ref N :: st) ((N + 1, S + 7, up1 K N (3, 7)), up1 V N (rw' [.null, .null, .null, .int 0, .int 0, .int 0, .int 0]), A, P) Q := e_new 7 [.null, .null, .null, .int 0, .int 0, .int 0, .int 0] (by decide +kernel : decode (bOf 40) 127 = .ok (.new 9, 3)) (by decide +kernel) (by decide +kernel) (by decide +kernel) (by decide +kernel)
theorem x_40_130 : Ev d 40 130 L (.ref r :: st) μ Q = Ev d 40 131 L (.ref r :: .ref r :: st) μ Q := e_dup_a (by decide +kernel : decode (bOf 40) 130 = .ok (.dup, 1))
theorem x_40_131 : Ev d 40 131 L [.ref r, s0, s1, s2] μ Q = Call d 26 [.ref r] μ (fun v μ1 => Ev d 40 134 L (v.toList ++ [s0, s1, s2]) μ1 Q) := e_callI (a := []) (r := [s0, s1, s2]) (by decide +kernel : decode (bOf 40) 131 = .ok (.invokespecial 11, 3)) (by decide +kernel) (by decide +kernel) (by decide +kernel) (by decide +kernel) (by omega) rfl (by simp)
theorem x_40_134 (h : kd t r = 9) (hv : kd t q = 3) (hi : inB x (ln t r) = true) : Ev d 40 134 L (.ref q :: .int x :: .ref r :: st) (t, V, A, P) Q = Ev d 40 135 L st (t, V, A, up1 P r (up1 (P r) x.toNatClampNeg (some q))) Q := e_aast9 (by decide +kernel : decode (bOf 40) 134 = .ok (.aastore, 1)) h hv hi
theorem x_40_135 (h : a0.category = 1) : Ev d 40 135 (a0 :: .int x :: L) st μ Q = Ev d 40 138 (a0 :: .int (x + (iI 1)) :: L) st μ Q := e_iinc (by decide +kernel : decode (bOf 40) 135 = .ok (.iinc 1 1, 3)) rfl (by simp [stOK, h])
theorem x_40_138 : Ev d 40 138 L st μ Q = Ev d 40 117 L st μ Q := e_goto (by decide +kernel : decode (bOf 40) 138 = .ok (.goto (-21), 3)) (by omega)
theorem x_40_141 : Ev d 40 141 L [] μ Q = Q none μ := e_ret (by decide +kernel : decode (bOf 40) 141 = .ok (.return_, 1)) (by decide +kernel)
theorem c_41 : Call (d + 1) 41 [.ref r0, .int i1] μ Q = Ev d 41 0 [.ref r0, .int i1] [] μ Q := call_ev rfl rfl 
theorem x_41_0 : Ev d 41 0 (a0 :: .int x :: L) st μ Q = Ev d 41 1 (a0 :: .int x :: L) (.int x :: st) μ Q := e_iload_n (by decide +kernel : decode (bOf 41) 0 = .ok (.iload_n 1, 1)) rfl
theorem x_41_1 : Ev d 41 1 L (.int x :: st) μ Q = if x < iI 0 then Ev d 41 11 L st μ Q else Ev d 41 4 L st μ Q := e_if_lt (by decide +kernel : decode (bOf 41) 1 = .ok (.ifCond .lt 10, 3)) (by omega)
theorem x_41_4 : Ev d 41 4 (a0 :: .int x :: L) st μ Q = Ev d 41 5 (a0 :: .int x :: L) (.int x :: st) μ Q := e_iload_n (by decide +kernel : decode (bOf 41) 4 = .ok (.iload_n 1, 1)) rfl
theorem x_41_5 : Ev d 41 5 L st μ Q = Ev d 41 8 L (.int (iI 255) :: st) μ Q := e_sipush (by decide +kernel : decode (bOf 41) 5 = .ok (.sipush 255, 3)) (by decide +kernel)
theorem x_41_8 : Ev d 41 8 L (.int y :: .int x :: st) μ Q = if y < x then Ev d 41 11 L st μ Q else Ev d 41 13 L st μ Q := e_icmp_le (by decide +kernel : decode (bOf 41) 8 = .ok (.if_icmp .le 5, 3)) (by omega)
theorem x_41_11 : Ev d 41 11 L st μ Q = Ev d 41 12 L (.int (iI (-1)) :: st) μ Q := e_iconst (by decide +kernel : decode (bOf 41) 11 = .ok (.iconst (-1), 1))
theorem x_41_12 : Ev d 41 12 L [.int x] μ Q = Q (some (.int x)) μ := e_iret (by decide +kernel : decode (bOf 41) 12 = .ok (.ireturn, 1)) (by decide +kernel)
theorem x_41_13 : Ev d 41 13 (.ref r :: L) st μ Q = Ev d 41 14 (.ref r :: L) (.ref r :: st) μ Q := e_aload_n (by decide +kernel : decode (bOf 41) 13 = .ok (.aload_n 0, 1)) rfl
theorem x_41_14 (h : kd t r = 4) : Ev d 41 14 L (.ref r :: st) (t, V, A, P) Q = Ev d 41 17 L (V r 9 :: st) (t, V, A, P) Q := e_getf (by decide +kernel : decode (bOf 41) 14 = .ok (.getfield 55, 3)) (by decide +kernel) (by decide +kernel) h
theorem x_41_17 : Ev d 41 17 L (.int x :: st) μ Q = if x < iI 0 then Ev d 41 29 L st μ Q else Ev d 41 20 L st μ Q := e_if_lt (by decide +kernel : decode (bOf 41) 17 = .ok (.ifCond .lt 12, 3)) (by omega)
theorem x_41_20 : Ev d 41 20 (.ref r :: L) st μ Q = Ev d 41 21 (.ref r :: L) (.ref r :: st) μ Q := e_aload_n (by decide +kernel : decode (bOf 41) 20 = .ok (.aload_n 0, 1)) rfl
theorem x_41_21 (h : kd t r = 4) : Ev d 41 21 L (.ref r :: st) (t, V, A, P) Q = Ev d 41 24 L (V r 9 :: st) (t, V, A, P) Q := e_getf (by decide +kernel : decode (bOf 41) 21 = .ok (.getfield 55, 3)) (by decide +kernel) (by decide +kernel) h
theorem x_41_24 : Ev d 41 24 L st μ Q = Ev d 41 26 L (.int (iI 120) :: st) μ Q := e_bipush (by decide +kernel : decode (bOf 41) 24 = .ok (.bipush 120, 2)) (by decide +kernel)
theorem x_41_26 : Ev d 41 26 L (.int y :: .int x :: st) μ Q = if x < y then Ev d 41 32 L st μ Q else Ev d 41 29 L st μ Q := e_icmp_lt (by decide +kernel : decode (bOf 41) 26 = .ok (.if_icmp .lt 6, 3)) (by omega)
theorem x_41_29 : Ev d 41 29 L st μ Q = Ev d 41 31 L (.int (iI (-3)) :: st) μ Q := e_bipush (by decide +kernel : decode (bOf 41) 29 = .ok (.bipush (-3), 2)) (by decide +kernel)
theorem x_41_31 : Ev d 41 31 L [.int x] μ Q = Q (some (.int x)) μ := e_iret (by decide +kernel : decode (bOf 41) 31 = .ok (.ireturn, 1)) (by decide +kernel)
theorem x_41_32 : Ev d 41 32 (.ref r :: L) st μ Q = Ev d 41 33 (.ref r :: L) (.ref r :: st) μ Q := e_aload_n (by decide +kernel : decode (bOf 41) 32 = .ok (.aload_n 0, 1)) rfl
theorem x_41_33 (h : kd t r = 4) : Ev d 41 33 L (.ref r :: st) (t, V, A, P) Q = Ev d 41 36 L (V r 4 :: st) (t, V, A, P) Q := e_getf (by decide +kernel : decode (bOf 41) 33 = .ok (.getfield 27, 3)) (by decide +kernel) (by decide +kernel) h
theorem x_41_36 : Ev d 41 36 (.ref r :: L) st μ Q = Ev d 41 37 (.ref r :: L) (.ref r :: st) μ Q := e_aload_n (by decide +kernel : decode (bOf 41) 36 = .ok (.aload_n 0, 1)) rfl
theorem x_41_37 (h : kd t r = 4) : Ev d 41 37 L (.ref r :: st) (t, V, A, P) Q = Ev d 41 40 L (V r 9 :: st) (t, V, A, P) Q := e_getf (by decide +kernel : decode (bOf 41) 37 = .ok (.getfield 55, 3)) (by decide +kernel) (by decide +kernel) h
theorem x_41_40 : Ev d 41 40 (a0 :: .int x :: L) st μ Q = Ev d 41 41 (a0 :: .int x :: L) (.int x :: st) μ Q := e_iload_n (by decide +kernel : decode (bOf 41) 40 = .ok (.iload_n 1, 1)) rfl
theorem x_41_41 (h : kd t r = 6) (hi : inB x (ln t r) = true) : Ev d 41 41 L (.int y :: .int x :: .ref r :: st) (t, V, A, P) Q = Ev d 41 42 L st (t, V, up1 A r (upd (A r) x.toNatClampNeg y), P) Q := e_iast (by decide +kernel : decode (bOf 41) 41 = .ok (.iastore, 1)) h hi
theorem x_41_42 : Ev d 41 42 (.ref r :: L) st μ Q = Ev d 41 43 (.ref r :: L) (.ref r :: st) μ Q := e_aload_n (by decide +kernel : decode (bOf 41) 42 = .ok (.aload_n 0, 1)) rfl
theorem x_41_43 : Ev d 41 43 L (.ref r :: st) μ Q = Ev d 41 44 L (.ref r :: .ref r :: st) μ Q := e_dup_a (by decide +kernel : decode (bOf 41) 43 = .ok (.dup, 1))
theorem x_41_44 (h : kd t r = 4) : Ev d 41 44 L (.ref r :: st) (t, V, A, P) Q = Ev d 41 47 L (V r 9 :: st) (t, V, A, P) Q := e_getf (by decide +kernel : decode (bOf 41) 44 = .ok (.getfield 55, 3)) (by decide +kernel) (by decide +kernel) h
theorem x_41_47 : Ev d 41 47 L st μ Q = Ev d 41 48 L (.int (iI 1) :: st) μ Q := e_iconst (by decide +kernel : decode (bOf 41) 47 = .ok (.iconst 1, 1))
theorem x_41_48 : Ev d 41 48 L (.int y :: .int x :: st) μ Q = Ev d 41 49 L (.int (x + y) :: st) μ Q := e_iadd (by decide +kernel : decode (bOf 41) 48 = .ok (.iadd, 1))
theorem x_41_49 (h : kd t r = 4) : Ev d 41 49 L (.int x :: .ref r :: st) (t, V, A, P) Q = Ev d 41 52 L st (t, up1 V r (up1 (V r) 9 (.int x)), A, P) Q := e_putf (by decide +kernel : decode (bOf 41) 49 = .ok (.putfield 55, 3)) (by decide +kernel) (by decide +kernel) rfl h
theorem x_41_52 : Ev d 41 52 (.ref r :: L) st μ Q = Ev d 41 53 (.ref r :: L) (.ref r :: st) μ Q := e_aload_n (by decide +kernel : decode (bOf 41) 52 = .ok (.aload_n 0, 1)) rfl
theorem x_41_53 (h : kd t r = 4) : Ev d 41 53 L (.ref r :: st) (t, V, A, P) Q = Ev d 41 56 L (V r 9 :: st) (t, V, A, P) Q := e_getf (by decide +kernel : decode (bOf 41) 53 = .ok (.getfield 55, 3)) (by decide +kernel) (by decide +kernel) h
theorem x_41_56 : Ev d 41 56 L [.int x] μ Q = Q (some (.int x)) μ := e_iret (by decide +kernel : decode (bOf 41) 56 = .ok (.ireturn, 1)) (by decide +kernel)
theorem c_42 : Call (d + 1) 42 [.ref r0] μ Q = Ev d 42 0 [.ref r0, .null] [] μ Q := call_ev rfl rfl 
theorem x_42_0 : Ev d 42 0 (.ref r :: L) st μ Q = Ev d 42 1 (.ref r :: L) (.ref r :: st) μ Q := e_aload_n (by decide +kernel : decode (bOf 42) 0 = .ok (.aload_n 0, 1)) rfl
theorem x_42_1 (h : kd t r = 4) : Ev d 42 1 L (.ref r :: st) (t, V, A, P) Q = Ev d 42 4 L (V r 9 :: st) (t, V, A, P) Q := e_getf (by decide +kernel : decode (bOf 42) 1 = .ok (.getfield 55, 3)) (by decide +kernel) (by decide +kernel) h
theorem x_42_4 (h : a0.category = 1) : Ev d 42 4 (a0 :: a1 :: L) (.int x :: st) μ Q = Ev d 42 5 (a0 :: .int x :: L) st μ Q := e_istore_n (by decide +kernel : decode (bOf 42) 4 = .ok (.istore_n 1, 1)) (by show stOK _ 1 = true; simp [stOK, h])
theorem x_42_5 : Ev d 42 5 (.ref r :: L) st μ Q = Ev d 42 6 (.ref r :: L) (.ref r :: st) μ Q := e_aload_n (by decide +kernel : decode (bOf 42) 5 = .ok (.aload_n 0, 1)) rfl
theorem x_42_6 : Ev d 42 6 L st μ Q = Ev d 42 7 L (.int (iI 0) :: st) μ Q := e_iconst (by decide +kernel : decode (bOf 42) 6 = .ok (.iconst 0, 1))
theorem x_42_7 (h : kd t r = 4) : Ev d 42 7 L (.int x :: .ref r :: st) (t, V, A, P) Q = Ev d 42 10 L st (t, up1 V r (up1 (V r) 9 (.int x)), A, P) Q := e_putf (by decide +kernel : decode (bOf 42) 7 = .ok (.putfield 55, 3)) (by decide +kernel) (by decide +kernel) rfl h
theorem x_42_10 : Ev d 42 10 (a0 :: .int x :: L) st μ Q = Ev d 42 11 (a0 :: .int x :: L) (.int x :: st) μ Q := e_iload_n (by decide +kernel : decode (bOf 42) 10 = .ok (.iload_n 1, 1)) rfl
theorem x_42_11 : Ev d 42 11 L [.int x] μ Q = Q (some (.int x)) μ := e_iret (by decide +kernel : decode (bOf 42) 11 = .ok (.ireturn, 1)) (by decide +kernel)
theorem c_43 : Call (d + 1) 43 [.ref r0] μ Q = Ev d 43 0 [.ref r0, .null, .null] [] μ Q := call_ev rfl rfl 
theorem x_43_0 : Ev d 43 0 (.ref r :: L) st μ Q = Ev d 43 1 (.ref r :: L) (.ref r :: st) μ Q := e_aload_n (by decide +kernel : decode (bOf 43) 0 = .ok (.aload_n 0, 1)) rfl
theorem x_43_1 (h : kd t r = 4) : Ev d 43 1 L [.ref r] (t, V, A, P) Q = Call d 65 [.ref r] (t, V, A, P) (fun v μ1 => Ev d 43 4 L (v.toList ++ []) μ1 Q) := e_callV (a := []) (r := []) (by decide +kernel : decode (bOf 43) 1 = .ok (.invokevirtual 59, 3)) (by decide +kernel) (by decide +kernel) (by decide +kernel) (by omega) rfl (by simp) (by decide +kernel) h
theorem x_43_4 (h : a0.category = 1) : Ev d 43 4 (a0 :: a1 :: L) (.int x :: st) μ Q = Ev d 43 5 (a0 :: .int x :: L) st μ Q := e_istore_n (by decide +kernel : decode (bOf 43) 4 = .ok (.istore_n 1, 1)) (by show stOK _ 1 = true; simp [stOK, h])
theorem x_43_5 : Ev d 43 5 (a0 :: .int x :: L) st μ Q = Ev d 43 6 (a0 :: .int x :: L) (.int x :: st) μ Q := e_iload_n (by decide +kernel : decode (bOf 43) 5 = .ok (.iload_n 1, 1)) rfl
theorem x_43_6 : Ev d 43 6 L (.int x :: st) μ Q = if x < iI 0 then Ev d 43 14 L st μ Q else Ev d 43 9 L st μ Q := e_if_lt (by decide +kernel : decode (bOf 43) 6 = .ok (.ifCond .lt 8, 3)) (by omega)
theorem x_43_9 : Ev d 43 9 L st μ Q = Ev d 43 11 L (.int (iI (-10)) :: st) μ Q := e_bipush (by decide +kernel : decode (bOf 43) 9 = .ok (.bipush (-10), 2)) (by decide +kernel)
theorem x_43_11 : Ev d 43 11 (a0 :: .int x :: L) st μ Q = Ev d 43 12 (a0 :: .int x :: L) (.int x :: st) μ Q := e_iload_n (by decide +kernel : decode (bOf 43) 11 = .ok (.iload_n 1, 1)) rfl
theorem x_43_12 : Ev d 43 12 L (.int y :: .int x :: st) μ Q = Ev d 43 13 L (.int (x - y) :: st) μ Q := e_isub (by decide +kernel : decode (bOf 43) 12 = .ok (.isub, 1))
theorem x_43_13 : Ev d 43 13 L [.int x] μ Q = Q (some (.int x)) μ := e_iret (by decide +kernel : decode (bOf 43) 13 = .ok (.ireturn, 1)) (by decide +kernel)
theorem x_43_14 : Ev d 43 14 (.ref r :: L) st μ Q = Ev d 43 15 (.ref r :: L) (.ref r :: st) μ Q := e_aload_n (by decide +kernel : decode (bOf 43) 14 = .ok (.aload_n 0, 1)) rfl
theorem x_43_15 (h : kd t r = 4) : Ev d 43 15 L (.ref r :: st) (t, V, A, P) Q = Ev d 43 18 L (V r 0 :: st) (t, V, A, P) Q := e_getf (by decide +kernel : decode (bOf 43) 15 = .ok (.getfield 12, 3)) (by decide +kernel) (by decide +kernel) h
theorem x_43_18 (h : kd t r = 3) : Ev d 43 18 L (.ref r :: st) (t, V, A, P) Q = Ev d 43 21 L (V r 3 :: st) (t, V, A, P) Q := e_getf (by decide +kernel : decode (bOf 43) 18 = .ok (.getfield 63, 3)) (by decide +kernel) (by decide +kernel) h
theorem x_43_21 : Ev d 43 21 (.ref r :: L) st μ Q = Ev d 43 22 (.ref r :: L) (.ref r :: st) μ Q := e_aload_n (by decide +kernel : decode (bOf 43) 21 = .ok (.aload_n 0, 1)) rfl
theorem x_43_22 (h : kd t r = 4) : Ev d 43 22 L (.ref r :: st) (t, V, A, P) Q = Ev d 43 25 L (V r 10 :: st) (t, V, A, P) Q := e_getf (by decide +kernel : decode (bOf 43) 22 = .ok (.getfield 66, 3)) (by decide +kernel) (by decide +kernel) h
theorem x_43_25 : Ev d 43 25 L (.int y :: .int x :: st) μ Q = Ev d 43 26 L (.int (x + y) :: st) μ Q := e_iadd (by decide +kernel : decode (bOf 43) 25 = .ok (.iadd, 1))
theorem x_43_26 : Ev d 43 26 L st μ Q = Ev d 43 28 L (.int (iI 32) :: st) μ Q := e_bipush (by decide +kernel : decode (bOf 43) 26 = .ok (.bipush 32, 2)) (by decide +kernel)
theorem x_43_28 : Ev d 43 28 L (.int y :: .int x :: st) μ Q = if y < x then Ev d 43 31 L st μ Q else Ev d 43 34 L st μ Q := e_icmp_le (by decide +kernel : decode (bOf 43) 28 = .ok (.if_icmp .le 6, 3)) (by omega)
theorem x_43_31 : Ev d 43 31 L st μ Q = Ev d 43 33 L (.int (iI (-3)) :: st) μ Q := e_bipush (by decide +kernel : decode (bOf 43) 31 = .ok (.bipush (-3), 2)) (by decide +kernel)
theorem x_43_33 : Ev d 43 33 L [.int x] μ Q = Q (some (.int x)) μ := e_iret (by decide +kernel : decode (bOf 43) 33 = .ok (.ireturn, 1)) (by decide +kernel)
theorem x_43_34 : Ev d 43 34 (.ref r :: L) st μ Q = Ev d 43 35 (.ref r :: L) (.ref r :: st) μ Q := e_aload_n (by decide +kernel : decode (bOf 43) 34 = .ok (.aload_n 0, 1)) rfl
theorem x_43_35 (h : kd t r = 4) : Ev d 43 35 L [.ref r] (t, V, A, P) Q = Call d 62 [.ref r] (t, V, A, P) (fun v μ1 => Ev d 43 38 L (v.toList ++ []) μ1 Q) := e_callV (a := []) (r := []) (by decide +kernel : decode (bOf 43) 35 = .ok (.invokevirtual 69, 3)) (by decide +kernel) (by decide +kernel) (by decide +kernel) (by omega) rfl (by simp) (by decide +kernel) h
theorem x_43_38 : Ev d 43 38 L st μ Q = Ev d 43 39 L (.int (iI 0) :: st) μ Q := e_iconst (by decide +kernel : decode (bOf 43) 38 = .ok (.iconst 0, 1))
theorem x_43_39 (h : a1.category = 1) : Ev d 43 39 (a0 :: a1 :: a2 :: L) (.int x :: st) μ Q = Ev d 43 40 (a0 :: a1 :: .int x :: L) st μ Q := e_istore_n (by decide +kernel : decode (bOf 43) 39 = .ok (.istore_n 2, 1)) (by show stOK _ 2 = true; simp [stOK, h])
theorem x_43_40 : Ev d 43 40 (a0 :: a1 :: .int x :: L) st μ Q = Ev d 43 41 (a0 :: a1 :: .int x :: L) (.int x :: st) μ Q := e_iload_n (by decide +kernel : decode (bOf 43) 40 = .ok (.iload_n 2, 1)) rfl
theorem x_43_41 : Ev d 43 41 (.ref r :: L) st μ Q = Ev d 43 42 (.ref r :: L) (.ref r :: st) μ Q := e_aload_n (by decide +kernel : decode (bOf 43) 41 = .ok (.aload_n 0, 1)) rfl
theorem x_43_42 (h : kd t r = 4) : Ev d 43 42 L (.ref r :: st) (t, V, A, P) Q = Ev d 43 45 L (V r 10 :: st) (t, V, A, P) Q := e_getf (by decide +kernel : decode (bOf 43) 42 = .ok (.getfield 66, 3)) (by decide +kernel) (by decide +kernel) h
theorem x_43_45 : Ev d 43 45 L (.int y :: .int x :: st) μ Q = if x < y then Ev d 43 48 L st μ Q else Ev d 43 74 L st μ Q := e_icmp_ge (by decide +kernel : decode (bOf 43) 45 = .ok (.if_icmp .ge 29, 3)) (by omega)
theorem x_43_48 : Ev d 43 48 (a0 :: a1 :: .int x :: L) st μ Q = Ev d 43 49 (a0 :: a1 :: .int x :: L) (.int x :: st) μ Q := e_iload_n (by decide +kernel : decode (bOf 43) 48 = .ok (.iload_n 2, 1)) rfl
theorem x_43_49 : Ev d 43 49 L st μ Q = Ev d 43 51 L (.int (iI 40) :: st) μ Q := e_bipush (by decide +kernel : decode (bOf 43) 49 = .ok (.bipush 40, 2)) (by decide +kernel)
theorem x_43_51 : Ev d 43 51 L (.int y :: .int x :: st) μ Q = if x < y then Ev d 43 54 L st μ Q else Ev d 43 74 L st μ Q := e_icmp_ge (by decide +kernel : decode (bOf 43) 51 = .ok (.if_icmp .ge 23, 3)) (by omega)
theorem x_43_54 : Ev d 43 54 (.ref r :: L) st μ Q = Ev d 43 55 (.ref r :: L) (.ref r :: st) μ Q := e_aload_n (by decide +kernel : decode (bOf 43) 54 = .ok (.aload_n 0, 1)) rfl
theorem x_43_55 (h : kd t r = 4) : Ev d 43 55 L (.ref r :: st) (t, V, A, P) Q = Ev d 43 58 L (V r 0 :: st) (t, V, A, P) Q := e_getf (by decide +kernel : decode (bOf 43) 55 = .ok (.getfield 12, 3)) (by decide +kernel) (by decide +kernel) h
theorem x_43_58 : Ev d 43 58 (.ref r :: L) st μ Q = Ev d 43 59 (.ref r :: L) (.ref r :: st) μ Q := e_aload_n (by decide +kernel : decode (bOf 43) 58 = .ok (.aload_n 0, 1)) rfl
theorem x_43_59 (h : kd t r = 4) : Ev d 43 59 L (.ref r :: st) (t, V, A, P) Q = Ev d 43 62 L (V r 5 :: st) (t, V, A, P) Q := e_getf (by decide +kernel : decode (bOf 43) 59 = .ok (.getfield 31, 3)) (by decide +kernel) (by decide +kernel) h
theorem x_43_62 : Ev d 43 62 (a0 :: a1 :: .int x :: L) st μ Q = Ev d 43 63 (a0 :: a1 :: .int x :: L) (.int x :: st) μ Q := e_iload_n (by decide +kernel : decode (bOf 43) 62 = .ok (.iload_n 2, 1)) rfl
theorem x_43_63 (h : kd t r = 6) (hi : inB x (ln t r) = true) : Ev d 43 63 L (.int x :: .ref r :: st) (t, V, A, P) Q = Ev d 43 64 L (.int (A r x.toNatClampNeg) :: st) (t, V, A, P) Q := e_iald (by decide +kernel : decode (bOf 43) 63 = .ok (.iaload, 1)) h hi
theorem x_43_64 (h : kd t r = 3) : Ev d 43 64 L [b0, .ref r] (t, V, A, P) Q = Call d 29 [.ref r, b0] (t, V, A, P) (fun v μ1 => Ev d 43 67 L (v.toList ++ []) μ1 Q) := e_callV (a := [b0]) (r := []) (by decide +kernel : decode (bOf 43) 64 = .ok (.invokevirtual 72, 3)) (by decide +kernel) (by decide +kernel) (by decide +kernel) (by omega) rfl (by simp) (by decide +kernel) h
theorem x_43_67 : Ev d 43 67 L (.int x :: st) μ Q = Ev d 43 68 L st μ Q := e_pop (by decide +kernel : decode (bOf 43) 67 = .ok (.pop, 1))
theorem x_43_68 (h : a1.category = 1) : Ev d 43 68 (a0 :: a1 :: .int x :: L) st μ Q = Ev d 43 71 (a0 :: a1 :: .int (x + (iI 1)) :: L) st μ Q := e_iinc (by decide +kernel : decode (bOf 43) 68 = .ok (.iinc 2 1, 3)) rfl (by simp [stOK, h])
theorem x_43_71 : Ev d 43 71 L st μ Q = Ev d 43 40 L st μ Q := e_goto (by decide +kernel : decode (bOf 43) 71 = .ok (.goto (-31), 3)) (by omega)
theorem x_43_74 : Ev d 43 74 (.ref r :: L) st μ Q = Ev d 43 75 (.ref r :: L) (.ref r :: st) μ Q := e_aload_n (by decide +kernel : decode (bOf 43) 74 = .ok (.aload_n 0, 1)) rfl
theorem x_43_75 : Ev d 43 75 L st μ Q = Ev d 43 76 L (.int (iI 0) :: st) μ Q := e_iconst (by decide +kernel : decode (bOf 43) 75 = .ok (.iconst 0, 1))
theorem x_43_76 (h : kd t r = 4) : Ev d 43 76 L (.int x :: .ref r :: st) (t, V, A, P) Q = Ev d 43 79 L st (t, up1 V r (up1 (V r) 9 (.int x)), A, P) Q := e_putf (by decide +kernel : decode (bOf 43) 76 = .ok (.putfield 55, 3)) (by decide +kernel) (by decide +kernel) rfl h
theorem x_43_79 : Ev d 43 79 (.ref r :: L) st μ Q = Ev d 43 80 (.ref r :: L) (.ref r :: st) μ Q := e_aload_n (by decide +kernel : decode (bOf 43) 79 = .ok (.aload_n 0, 1)) rfl
theorem x_43_80 (h : kd t r = 4) : Ev d 43 80 L (.ref r :: st) (t, V, A, P) Q = Ev d 43 83 L (V r 10 :: st) (t, V, A, P) Q := e_getf (by decide +kernel : decode (bOf 43) 80 = .ok (.getfield 66, 3)) (by decide +kernel) (by decide +kernel) h
theorem x_43_83 : Ev d 43 83 L [.int x] μ Q = Q (some (.int x)) μ := e_iret (by decide +kernel : decode (bOf 43) 83 = .ok (.ireturn, 1)) (by decide +kernel)
theorem c_44 : Call (d + 1) 44 [.ref r0, .int i1] μ Q = Ev d 44 0 [.ref r0, .int i1] [] μ Q := call_ev rfl rfl 
theorem x_44_0 : Ev d 44 0 (a0 :: .int x :: L) st μ Q = Ev d 44 1 (a0 :: .int x :: L) (.int x :: st) μ Q := e_iload_n (by decide +kernel : decode (bOf 44) 0 = .ok (.iload_n 1, 1)) rfl
theorem x_44_1 : Ev d 44 1 L (.int x :: st) μ Q = if x < iI 0 then Ev d 44 10 L st μ Q else Ev d 44 4 L st μ Q := e_if_lt (by decide +kernel : decode (bOf 44) 1 = .ok (.ifCond .lt 9, 3)) (by omega)
theorem x_44_4 : Ev d 44 4 (a0 :: .int x :: L) st μ Q = Ev d 44 5 (a0 :: .int x :: L) (.int x :: st) μ Q := e_iload_n (by decide +kernel : decode (bOf 44) 4 = .ok (.iload_n 1, 1)) rfl
theorem x_44_5 : Ev d 44 5 L st μ Q = Ev d 44 7 L (.int (iI 31) :: st) μ Q := e_bipush (by decide +kernel : decode (bOf 44) 5 = .ok (.bipush 31, 2)) (by decide +kernel)
theorem x_44_7 : Ev d 44 7 L (.int y :: .int x :: st) μ Q = if x < y then Ev d 44 12 L st μ Q else Ev d 44 10 L st μ Q := e_icmp_lt (by decide +kernel : decode (bOf 44) 7 = .ok (.if_icmp .lt 5, 3)) (by omega)
theorem x_44_10 : Ev d 44 10 L st μ Q = Ev d 44 11 L (.int (iI (-1)) :: st) μ Q := e_iconst (by decide +kernel : decode (bOf 44) 10 = .ok (.iconst (-1), 1))
theorem x_44_11 : Ev d 44 11 L [.int x] μ Q = Q (some (.int x)) μ := e_iret (by decide +kernel : decode (bOf 44) 11 = .ok (.ireturn, 1)) (by decide +kernel)
theorem x_44_12 : Ev d 44 12 (.ref r :: L) st μ Q = Ev d 44 13 (.ref r :: L) (.ref r :: st) μ Q := e_aload_n (by decide +kernel : decode (bOf 44) 12 = .ok (.aload_n 0, 1)) rfl
theorem x_44_13 : Ev d 44 13 (a0 :: .int x :: L) st μ Q = Ev d 44 14 (a0 :: .int x :: L) (.int x :: st) μ Q := e_iload_n (by decide +kernel : decode (bOf 44) 13 = .ok (.iload_n 1, 1)) rfl
theorem x_44_14 (h : kd t r = 4) : Ev d 44 14 L [b0, .ref r] (t, V, A, P) Q = Call d 61 [.ref r, b0] (t, V, A, P) (fun v μ1 => Ev d 44 17 L (v.toList ++ []) μ1 Q) := e_callV (a := [b0]) (r := []) (by decide +kernel : decode (bOf 44) 14 = .ok (.invokevirtual 76, 3)) (by decide +kernel) (by decide +kernel) (by decide +kernel) (by omega) rfl (by simp) (by decide +kernel) h
theorem x_44_17 : Ev d 44 17 L [.int x] μ Q = Q (some (.int x)) μ := e_iret (by decide +kernel : decode (bOf 44) 17 = .ok (.ireturn, 1)) (by decide +kernel)
theorem c_45 : Call (d + 1) 45 [.ref r0, .int i1] μ Q = Ev d 45 0 [.ref r0, .int i1] [] μ Q := call_ev rfl rfl 
theorem x_45_0 : Ev d 45 0 (a0 :: .int x :: L) st μ Q = Ev d 45 1 (a0 :: .int x :: L) (.int x :: st) μ Q := e_iload_n (by decide +kernel : decode (bOf 45) 0 = .ok (.iload_n 1, 1)) rfl
theorem x_45_1 : Ev d 45 1 L (.int x :: st) μ Q = if x < iI 0 then Ev d 45 9 L st μ Q else Ev d 45 4 L st μ Q := e_if_lt (by decide +kernel : decode (bOf 45) 1 = .ok (.ifCond .lt 8, 3)) (by omega)
theorem x_45_4 : Ev d 45 4 (a0 :: .int x :: L) st μ Q = Ev d 45 5 (a0 :: .int x :: L) (.int x :: st) μ Q := e_iload_n (by decide +kernel : decode (bOf 45) 4 = .ok (.iload_n 1, 1)) rfl
theorem x_45_5 : Ev d 45 5 L st μ Q = Ev d 45 6 L (.int (iI 3) :: st) μ Q := e_iconst (by decide +kernel : decode (bOf 45) 5 = .ok (.iconst 3, 1))
theorem x_45_6 : Ev d 45 6 L (.int y :: .int x :: st) μ Q = if x < y then Ev d 45 11 L st μ Q else Ev d 45 9 L st μ Q := e_icmp_lt (by decide +kernel : decode (bOf 45) 6 = .ok (.if_icmp .lt 5, 3)) (by omega)
theorem x_45_9 : Ev d 45 9 L st μ Q = Ev d 45 10 L (.int (iI (-1)) :: st) μ Q := e_iconst (by decide +kernel : decode (bOf 45) 9 = .ok (.iconst (-1), 1))
theorem x_45_10 : Ev d 45 10 L [.int x] μ Q = Q (some (.int x)) μ := e_iret (by decide +kernel : decode (bOf 45) 10 = .ok (.ireturn, 1)) (by decide +kernel)
theorem x_45_11 : Ev d 45 11 (.ref r :: L) st μ Q = Ev d 45 12 (.ref r :: L) (.ref r :: st) μ Q := e_aload_n (by decide +kernel : decode (bOf 45) 11 = .ok (.aload_n 0, 1)) rfl
theorem x_45_12 : Ev d 45 12 L st μ Q = Ev d 45 14 L (.int (iI 31) :: st) μ Q := e_bipush (by decide +kernel : decode (bOf 45) 12 = .ok (.bipush 31, 2)) (by decide +kernel)
theorem x_45_14 : Ev d 45 14 (a0 :: .int x :: L) st μ Q = Ev d 45 15 (a0 :: .int x :: L) (.int x :: st) μ Q := e_iload_n (by decide +kernel : decode (bOf 45) 14 = .ok (.iload_n 1, 1)) rfl
theorem x_45_15 : Ev d 45 15 L (.int y :: .int x :: st) μ Q = Ev d 45 16 L (.int (x + y) :: st) μ Q := e_iadd (by decide +kernel : decode (bOf 45) 15 = .ok (.iadd, 1))
theorem x_45_16 (h : kd t r = 4) : Ev d 45 16 L [b0, .ref r] (t, V, A, P) Q = Call d 61 [.ref r, b0] (t, V, A, P) (fun v μ1 => Ev d 45 19 L (v.toList ++ []) μ1 Q) := e_callV (a := [b0]) (r := []) (by decide +kernel : decode (bOf 45) 16 = .ok (.invokevirtual 76, 3)) (by decide +kernel) (by decide +kernel) (by decide +kernel) (by omega) rfl (by simp) (by decide +kernel) h
theorem x_45_19 : Ev d 45 19 L [.int x] μ Q = Q (some (.int x)) μ := e_iret (by decide +kernel : decode (bOf 45) 19 = .ok (.ireturn, 1)) (by decide +kernel)
theorem c_46 : Call (d + 1) 46 [.ref r0, .int i1] μ Q = Ev d 46 0 [.ref r0, .int i1] [] μ Q := call_ev rfl rfl 
theorem x_46_0 : Ev d 46 0 (.ref r :: L) st μ Q = Ev d 46 1 (.ref r :: L) (.ref r :: st) μ Q := e_aload_n (by decide +kernel : decode (bOf 46) 0 = .ok (.aload_n 0, 1)) rfl
theorem x_46_1 (h : kd t r = 4) : Ev d 46 1 L (.ref r :: st) (t, V, A, P) Q = Ev d 46 4 L (V r 0 :: st) (t, V, A, P) Q := e_getf (by decide +kernel : decode (bOf 46) 1 = .ok (.getfield 12, 3)) (by decide +kernel) (by decide +kernel) h
theorem x_46_4 : Ev d 46 4 (a0 :: .int x :: L) st μ Q = Ev d 46 5 (a0 :: .int x :: L) (.int x :: st) μ Q := e_iload_n (by decide +kernel : decode (bOf 46) 4 = .ok (.iload_n 1, 1)) rfl
theorem x_46_5 (h : kd t r = 3) : Ev d 46 5 L [b0, .ref r] (t, V, A, P) Q = Call d 33 [.ref r, b0] (t, V, A, P) (fun v μ1 => Ev d 46 8 L (v.toList ++ []) μ1 Q) := e_callV (a := [b0]) (r := []) (by decide +kernel : decode (bOf 46) 5 = .ok (.invokevirtual 79, 3)) (by decide +kernel) (by decide +kernel) (by decide +kernel) (by omega) rfl (by simp) (by decide +kernel) h
theorem x_46_8 : Ev d 46 8 L (.int x :: st) μ Q = if x = iI 0 then Ev d 46 11 L st μ Q else Ev d 46 13 L st μ Q := e_if_ne (by decide +kernel : decode (bOf 46) 8 = .ok (.ifCond .ne 5, 3)) (by omega)
theorem x_46_11 : Ev d 46 11 L st μ Q = Ev d 46 12 L (.int (iI (-1)) :: st) μ Q := e_iconst (by decide +kernel : decode (bOf 46) 11 = .ok (.iconst (-1), 1))
theorem x_46_12 : Ev d 46 12 L [.int x] μ Q = Q (some (.int x)) μ := e_iret (by decide +kernel : decode (bOf 46) 12 = .ok (.ireturn, 1)) (by decide +kernel)
theorem x_46_13 : Ev d 46 13 (.ref r :: L) st μ Q = Ev d 46 14 (.ref r :: L) (.ref r :: st) μ Q := e_aload_n (by decide +kernel : decode (bOf 46) 13 = .ok (.aload_n 0, 1)) rfl
theorem x_46_14 (h : kd t r = 4) : Ev d 46 14 L [.ref r] (t, V, A, P) Q = Call d 62 [.ref r] (t, V, A, P) (fun v μ1 => Ev d 46 17 L (v.toList ++ []) μ1 Q) := e_callV (a := []) (r := []) (by decide +kernel : decode (bOf 46) 14 = .ok (.invokevirtual 69, 3)) (by decide +kernel) (by decide +kernel) (by decide +kernel) (by omega) rfl (by simp) (by decide +kernel) h
theorem x_46_17 : Ev d 46 17 (.ref r :: L) st μ Q = Ev d 46 18 (.ref r :: L) (.ref r :: st) μ Q := e_aload_n (by decide +kernel : decode (bOf 46) 17 = .ok (.aload_n 0, 1)) rfl
theorem x_46_18 (h : kd t r = 4) : Ev d 46 18 L (.ref r :: st) (t, V, A, P) Q = Ev d 46 21 L (V r 0 :: st) (t, V, A, P) Q := e_getf (by decide +kernel : decode (bOf 46) 18 = .ok (.getfield 12, 3)) (by decide +kernel) (by decide +kernel) h
theorem x_46_21 : Ev d 46 21 (a0 :: .int x :: L) st μ Q = Ev d 46 22 (a0 :: .int x :: L) (.int x :: st) μ Q := e_iload_n (by decide +kernel : decode (bOf 46) 21 = .ok (.iload_n 1, 1)) rfl
theorem x_46_22 (h : kd t r = 3) : Ev d 46 22 L [b0, .ref r] (t, V, A, P) Q = Call d 35 [.ref r, b0] (t, V, A, P) (fun v μ1 => Ev d 46 25 L (v.toList ++ []) μ1 Q) := e_callV (a := [b0]) (r := []) (by decide +kernel : decode (bOf 46) 22 = .ok (.invokevirtual 83, 3)) (by decide +kernel) (by decide +kernel) (by decide +kernel) (by omega) rfl (by simp) (by decide +kernel) h
theorem x_46_25 : Ev d 46 25 (.ref r :: L) st μ Q = Ev d 46 26 (.ref r :: L) (.ref r :: st) μ Q := e_aload_n (by decide +kernel : decode (bOf 46) 25 = .ok (.aload_n 0, 1)) rfl
theorem x_46_26 (h : kd t r = 4) : Ev d 46 26 L (.ref r :: st) (t, V, A, P) Q = Ev d 46 29 L (V r 0 :: st) (t, V, A, P) Q := e_getf (by decide +kernel : decode (bOf 46) 26 = .ok (.getfield 12, 3)) (by decide +kernel) (by decide +kernel) h
theorem x_46_29 : Ev d 46 29 (a0 :: .int x :: L) st μ Q = Ev d 46 30 (a0 :: .int x :: L) (.int x :: st) μ Q := e_iload_n (by decide +kernel : decode (bOf 46) 29 = .ok (.iload_n 1, 1)) rfl
theorem x_46_30 (h : kd t r = 3) : Ev d 46 30 L [b0, .ref r] (t, V, A, P) Q = Call d 34 [.ref r, b0] (t, V, A, P) (fun v μ1 => Ev d 46 33 L (v.toList ++ []) μ1 Q) := e_callV (a := [b0]) (r := []) (by decide +kernel : decode (bOf 46) 30 = .ok (.invokevirtual 87, 3)) (by decide +kernel) (by decide +kernel) (by decide +kernel) (by omega) rfl (by simp) (by decide +kernel) h
theorem x_46_33 : Ev d 46 33 L [.int x] μ Q = Q (some (.int x)) μ := e_iret (by decide +kernel : decode (bOf 46) 33 = .ok (.ireturn, 1)) (by decide +kernel)
theorem c_47 : Call (d + 1) 47 [.ref r0] μ Q = Ev d 47 0 [.ref r0, .null] [] μ Q := call_ev rfl rfl 
theorem x_47_0 : Ev d 47 0 (.ref r :: L) st μ Q = Ev d 47 1 (.ref r :: L) (.ref r :: st) μ Q := e_aload_n (by decide +kernel : decode (bOf 47) 0 = .ok (.aload_n 0, 1)) rfl
theorem x_47_1 (h : kd t r = 4) : Ev d 47 1 L (.ref r :: st) (t, V, A, P) Q = Ev d 47 4 L (V r 0 :: st) (t, V, A, P) Q := e_getf (by decide +kernel : decode (bOf 47) 1 = .ok (.getfield 12, 3)) (by decide +kernel) (by decide +kernel) h
theorem x_47_4 (h : kd t r = 3) : Ev d 47 4 L (.ref r :: st) (t, V, A, P) Q = Ev d 47 7 L (V r 3 :: st) (t, V, A, P) Q := e_getf (by decide +kernel : decode (bOf 47) 4 = .ok (.getfield 63, 3)) (by decide +kernel) (by decide +kernel) h
theorem x_47_7 : Ev d 47 7 L (.int x :: st) μ Q = if x = iI 0 then Ev d 47 10 L st μ Q else Ev d 47 13 L st μ Q := e_if_ne (by decide +kernel : decode (bOf 47) 7 = .ok (.ifCond .ne 6, 3)) (by omega)
theorem x_47_10 : Ev d 47 10 L st μ Q = Ev d 47 12 L (.int (iI (-2)) :: st) μ Q := e_bipush (by decide +kernel : decode (bOf 47) 10 = .ok (.bipush (-2), 2)) (by decide +kernel)
theorem x_47_12 : Ev d 47 12 L [.int x] μ Q = Q (some (.int x)) μ := e_iret (by decide +kernel : decode (bOf 47) 12 = .ok (.ireturn, 1)) (by decide +kernel)
theorem x_47_13 : Ev d 47 13 (.ref r :: L) st μ Q = Ev d 47 14 (.ref r :: L) (.ref r :: st) μ Q := e_aload_n (by decide +kernel : decode (bOf 47) 13 = .ok (.aload_n 0, 1)) rfl
theorem x_47_14 (h : kd t r = 4) : Ev d 47 14 L (.ref r :: st) (t, V, A, P) Q = Ev d 47 17 L (V r 0 :: st) (t, V, A, P) Q := e_getf (by decide +kernel : decode (bOf 47) 14 = .ok (.getfield 12, 3)) (by decide +kernel) (by decide +kernel) h
theorem x_47_17 (h : kd t r = 3) : Ev d 47 17 L (.ref r :: st) (t, V, A, P) Q = Ev d 47 20 L (V r 3 :: st) (t, V, A, P) Q := e_getf (by decide +kernel : decode (bOf 47) 17 = .ok (.getfield 63, 3)) (by decide +kernel) (by decide +kernel) h
theorem x_47_20 (h : a0.category = 1) : Ev d 47 20 (a0 :: a1 :: L) (.int x :: st) μ Q = Ev d 47 21 (a0 :: .int x :: L) st μ Q := e_istore_n (by decide +kernel : decode (bOf 47) 20 = .ok (.istore_n 1, 1)) (by show stOK _ 1 = true; simp [stOK, h])
theorem x_47_21 : Ev d 47 21 (.ref r :: L) st μ Q = Ev d 47 22 (.ref r :: L) (.ref r :: st) μ Q := e_aload_n (by decide +kernel : decode (bOf 47) 21 = .ok (.aload_n 0, 1)) rfl
theorem x_47_22 (h : kd t r = 4) : Ev d 47 22 L [.ref r] (t, V, A, P) Q = Call d 62 [.ref r] (t, V, A, P) (fun v μ1 => Ev d 47 25 L (v.toList ++ []) μ1 Q) := e_callV (a := []) (r := []) (by decide +kernel : decode (bOf 47) 22 = .ok (.invokevirtual 69, 3)) (by decide +kernel) (by decide +kernel) (by decide +kernel) (by omega) rfl (by simp) (by decide +kernel) h
theorem x_47_25 : Ev d 47 25 (.ref r :: L) st μ Q = Ev d 47 26 (.ref r :: L) (.ref r :: st) μ Q := e_aload_n (by decide +kernel : decode (bOf 47) 25 = .ok (.aload_n 0, 1)) rfl
theorem x_47_26 (h : kd t r = 4) : Ev d 47 26 L (.ref r :: st) (t, V, A, P) Q = Ev d 47 29 L (V r 0 :: st) (t, V, A, P) Q := e_getf (by decide +kernel : decode (bOf 47) 26 = .ok (.getfield 12, 3)) (by decide +kernel) (by decide +kernel) h
theorem x_47_29 (h : kd t r = 3) : Ev d 47 29 L [.ref r] (t, V, A, P) Q = Call d 27 [.ref r] (t, V, A, P) (fun v μ1 => Ev d 47 32 L (v.toList ++ []) μ1 Q) := e_callV (a := []) (r := []) (by decide +kernel : decode (bOf 47) 29 = .ok (.invokevirtual 90, 3)) (by decide +kernel) (by decide +kernel) (by decide +kernel) (by omega) rfl (by simp) (by decide +kernel) h
theorem x_47_32 : Ev d 47 32 (a0 :: .int x :: L) st μ Q = Ev d 47 33 (a0 :: .int x :: L) (.int x :: st) μ Q := e_iload_n (by decide +kernel : decode (bOf 47) 32 = .ok (.iload_n 1, 1)) rfl
theorem x_47_33 : Ev d 47 33 L [.int x] μ Q = Q (some (.int x)) μ := e_iret (by decide +kernel : decode (bOf 47) 33 = .ok (.ireturn, 1)) (by decide +kernel)
theorem c_48 : Call (d + 1) 48 [.ref r0] μ Q = Ev d 48 0 [.ref r0] [] μ Q := call_ev rfl rfl 
theorem x_48_0 : Ev d 48 0 (.ref r :: L) st μ Q = Ev d 48 1 (.ref r :: L) (.ref r :: st) μ Q := e_aload_n (by decide +kernel : decode (bOf 48) 0 = .ok (.aload_n 0, 1)) rfl
theorem x_48_1 (h : kd t r = 4) : Ev d 48 1 L (.ref r :: st) (t, V, A, P) Q = Ev d 48 4 L (V r 11 :: st) (t, V, A, P) Q := e_getf (by decide +kernel : decode (bOf 48) 1 = .ok (.getfield 93, 3)) (by decide +kernel) (by decide +kernel) h
theorem x_48_4 : Ev d 48 4 L (.int x :: st) μ Q = if iI 0 < x then Ev d 48 7 L st μ Q else Ev d 48 16 L st μ Q := e_if_le (by decide +kernel : decode (bOf 48) 4 = .ok (.ifCond .le 12, 3)) (by omega)
theorem x_48_7 : Ev d 48 7 (.ref r :: L) st μ Q = Ev d 48 8 (.ref r :: L) (.ref r :: st) μ Q := e_aload_n (by decide +kernel : decode (bOf 48) 7 = .ok (.aload_n 0, 1)) rfl
theorem x_48_8 (h : kd t r = 4) : Ev d 48 8 L (.ref r :: st) (t, V, A, P) Q = Ev d 48 11 L (V r 11 :: st) (t, V, A, P) Q := e_getf (by decide +kernel : decode (bOf 48) 8 = .ok (.getfield 93, 3)) (by decide +kernel) (by decide +kernel) h
theorem x_48_11 : Ev d 48 11 L st μ Q = Ev d 48 13 L (.int (iI 6) :: st) μ Q := e_bipush (by decide +kernel : decode (bOf 48) 11 = .ok (.bipush 6, 2)) (by decide +kernel)
theorem x_48_13 : Ev d 48 13 L (.int y :: .int x :: st) μ Q = if y < x then Ev d 48 16 L st μ Q else Ev d 48 19 L st μ Q := e_icmp_le (by decide +kernel : decode (bOf 48) 13 = .ok (.if_icmp .le 6, 3)) (by omega)
theorem x_48_16 : Ev d 48 16 L st μ Q = Ev d 48 18 L (.int (iI (-2)) :: st) μ Q := e_bipush (by decide +kernel : decode (bOf 48) 16 = .ok (.bipush (-2), 2)) (by decide +kernel)
theorem x_48_18 : Ev d 48 18 L [.int x] μ Q = Q (some (.int x)) μ := e_iret (by decide +kernel : decode (bOf 48) 18 = .ok (.ireturn, 1)) (by decide +kernel)
theorem x_48_19 : Ev d 48 19 (.ref r :: L) st μ Q = Ev d 48 20 (.ref r :: L) (.ref r :: st) μ Q := e_aload_n (by decide +kernel : decode (bOf 48) 19 = .ok (.aload_n 0, 1)) rfl
theorem x_48_20 : Ev d 48 20 L (.ref r :: st) μ Q = Ev d 48 21 L (.ref r :: .ref r :: st) μ Q := e_dup_a (by decide +kernel : decode (bOf 48) 20 = .ok (.dup, 1))
theorem x_48_21 (h : kd t r = 4) : Ev d 48 21 L (.ref r :: st) (t, V, A, P) Q = Ev d 48 24 L (V r 11 :: st) (t, V, A, P) Q := e_getf (by decide +kernel : decode (bOf 48) 21 = .ok (.getfield 93, 3)) (by decide +kernel) (by decide +kernel) h
theorem x_48_24 : Ev d 48 24 L st μ Q = Ev d 48 25 L (.int (iI 1) :: st) μ Q := e_iconst (by decide +kernel : decode (bOf 48) 24 = .ok (.iconst 1, 1))
theorem x_48_25 : Ev d 48 25 L (.int y :: .int x :: st) μ Q = Ev d 48 26 L (.int (x - y) :: st) μ Q := e_isub (by decide +kernel : decode (bOf 48) 25 = .ok (.isub, 1))
theorem x_48_26 (h : kd t r = 4) : Ev d 48 26 L (.int x :: .ref r :: st) (t, V, A, P) Q = Ev d 48 29 L st (t, up1 V r (up1 (V r) 11 (.int x)), A, P) Q := e_putf (by decide +kernel : decode (bOf 48) 26 = .ok (.putfield 93, 3)) (by decide +kernel) (by decide +kernel) rfl h
theorem x_48_29 : Ev d 48 29 (.ref r :: L) st μ Q = Ev d 48 30 (.ref r :: L) (.ref r :: st) μ Q := e_aload_n (by decide +kernel : decode (bOf 48) 29 = .ok (.aload_n 0, 1)) rfl
theorem x_48_30 (h : kd t r = 4) : Ev d 48 30 L (.ref r :: st) (t, V, A, P) Q = Ev d 48 33 L (V r 1 :: st) (t, V, A, P) Q := e_getf (by decide +kernel : decode (bOf 48) 30 = .ok (.getfield 16, 3)) (by decide +kernel) (by decide +kernel) h
theorem x_48_33 : Ev d 48 33 (.ref r :: L) st μ Q = Ev d 48 34 (.ref r :: L) (.ref r :: st) μ Q := e_aload_n (by decide +kernel : decode (bOf 48) 33 = .ok (.aload_n 0, 1)) rfl
theorem x_48_34 (h : kd t r = 4) : Ev d 48 34 L (.ref r :: st) (t, V, A, P) Q = Ev d 48 37 L (V r 11 :: st) (t, V, A, P) Q := e_getf (by decide +kernel : decode (bOf 48) 34 = .ok (.getfield 93, 3)) (by decide +kernel) (by decide +kernel) h
theorem x_48_37 (h : kd t r = 9) (hi : inB x (ln t r) = true) : Ev d 48 37 L (.int x :: .ref r :: st) (t, V, A, P) Q = Ev d 48 38 L (va_rf (P r x.toNatClampNeg) :: st) (t, V, A, P) Q := e_aald 9 (by omega) (by decide +kernel : decode (bOf 48) 37 = .ok (.aaload, 1)) h hi
theorem x_48_38 : Ev d 48 38 (.ref r :: L) st μ Q = Ev d 48 39 (.ref r :: L) (.ref r :: st) μ Q := e_aload_n (by decide +kernel : decode (bOf 48) 38 = .ok (.aload_n 0, 1)) rfl
theorem x_48_39 (h : kd t r = 4) : Ev d 48 39 L (.ref r :: st) (t, V, A, P) Q = Ev d 48 42 L (V r 0 :: st) (t, V, A, P) Q := e_getf (by decide +kernel : decode (bOf 48) 39 = .ok (.getfield 12, 3)) (by decide +kernel) (by decide +kernel) h
theorem x_48_42 : Ev d 48 42 L [b1, b0] μ Q = Call d 28 [b0, b1] μ (fun v μ1 => Ev d 48 45 L (v.toList ++ []) μ1 Q) := e_callS (a := [b0, b1]) (r := []) (by decide +kernel : decode (bOf 48) 42 = .ok (.invokestatic 96, 3)) (by decide +kernel) (by decide +kernel) (by omega) rfl (by simp)
theorem x_48_45 : Ev d 48 45 (.ref r :: L) st μ Q = Ev d 48 46 (.ref r :: L) (.ref r :: st) μ Q := e_aload_n (by decide +kernel : decode (bOf 48) 45 = .ok (.aload_n 0, 1)) rfl
theorem x_48_46 (h : kd t r = 4) : Ev d 48 46 L (.ref r :: st) (t, V, A, P) Q = Ev d 48 49 L (V r 11 :: st) (t, V, A, P) Q := e_getf (by decide +kernel : decode (bOf 48) 46 = .ok (.getfield 93, 3)) (by decide +kernel) (by decide +kernel) h
theorem x_48_49 : Ev d 48 49 L [.int x] μ Q = Q (some (.int x)) μ := e_iret (by decide +kernel : decode (bOf 48) 49 = .ok (.ireturn, 1)) (by decide +kernel)
theorem c_49 : Call (d + 1) 49 [.ref r0, .int i1] μ Q = Ev d 49 0 [.ref r0, .int i1] [] μ Q := call_ev rfl rfl 
theorem x_49_0 : Ev d 49 0 (.ref r :: L) st μ Q = Ev d 49 1 (.ref r :: L) (.ref r :: st) μ Q := e_aload_n (by decide +kernel : decode (bOf 49) 0 = .ok (.aload_n 0, 1)) rfl
theorem x_49_1 (h : kd t r = 4) : Ev d 49 1 L (.ref r :: st) (t, V, A, P) Q = Ev d 49 4 L (V r 0 :: st) (t, V, A, P) Q := e_getf (by decide +kernel : decode (bOf 49) 1 = .ok (.getfield 12, 3)) (by decide +kernel) (by decide +kernel) h
theorem x_49_4 : Ev d 49 4 (a0 :: .int x :: L) st μ Q = Ev d 49 5 (a0 :: .int x :: L) (.int x :: st) μ Q := e_iload_n (by decide +kernel : decode (bOf 49) 4 = .ok (.iload_n 1, 1)) rfl
theorem x_49_5 (h : kd t r = 3) : Ev d 49 5 L [b0, .ref r] (t, V, A, P) Q = Call d 33 [.ref r, b0] (t, V, A, P) (fun v μ1 => Ev d 49 8 L (v.toList ++ []) μ1 Q) := e_callV (a := [b0]) (r := []) (by decide +kernel : decode (bOf 49) 5 = .ok (.invokevirtual 79, 3)) (by decide +kernel) (by decide +kernel) (by decide +kernel) (by omega) rfl (by simp) (by decide +kernel) h
theorem x_49_8 : Ev d 49 8 L (.int x :: st) μ Q = if x = iI 0 then Ev d 49 22 L st μ Q else Ev d 49 11 L st μ Q := e_if_eq (by decide +kernel : decode (bOf 49) 8 = .ok (.ifCond .eq 14, 3)) (by omega)
theorem x_49_11 : Ev d 49 11 (.ref r :: L) st μ Q = Ev d 49 12 (.ref r :: L) (.ref r :: st) μ Q := e_aload_n (by decide +kernel : decode (bOf 49) 11 = .ok (.aload_n 0, 1)) rfl
theorem x_49_12 (h : kd t r = 4) : Ev d 49 12 L (.ref r :: st) (t, V, A, P) Q = Ev d 49 15 L (V r 0 :: st) (t, V, A, P) Q := e_getf (by decide +kernel : decode (bOf 49) 12 = .ok (.getfield 12, 3)) (by decide +kernel) (by decide +kernel) h
theorem x_49_15 : Ev d 49 15 (a0 :: .int x :: L) st μ Q = Ev d 49 16 (a0 :: .int x :: L) (.int x :: st) μ Q := e_iload_n (by decide +kernel : decode (bOf 49) 15 = .ok (.iload_n 1, 1)) rfl
theorem x_49_16 (h : kd t r = 3) : Ev d 49 16 L [b0, .ref r] (t, V, A, P) Q = Call d 34 [.ref r, b0] (t, V, A, P) (fun v μ1 => Ev d 49 19 L (v.toList ++ []) μ1 Q) := e_callV (a := [b0]) (r := []) (by decide +kernel : decode (bOf 49) 16 = .ok (.invokevirtual 87, 3)) (by decide +kernel) (by decide +kernel) (by decide +kernel) (by omega) rfl (by simp) (by decide +kernel) h
theorem x_49_19 : Ev d 49 19 L st μ Q = Ev d 49 23 L st μ Q := e_goto (by decide +kernel : decode (bOf 49) 19 = .ok (.goto 4, 3)) (by omega)
theorem x_49_22 : Ev d 49 22 L st μ Q = Ev d 49 23 L (.int (iI (-1)) :: st) μ Q := e_iconst (by decide +kernel : decode (bOf 49) 22 = .ok (.iconst (-1), 1))
theorem x_49_23 : Ev d 49 23 L [.int x] μ Q = Q (some (.int x)) μ := e_iret (by decide +kernel : decode (bOf 49) 23 = .ok (.ireturn, 1)) (by decide +kernel)
theorem c_50 : Call (d + 1) 50 [.ref r0, .int i1] μ Q = Ev d 50 0 [.ref r0, .int i1] [] μ Q := call_ev rfl rfl 
theorem x_50_0 : Ev d 50 0 (a0 :: .int x :: L) st μ Q = Ev d 50 1 (a0 :: .int x :: L) (.int x :: st) μ Q := e_iload_n (by decide +kernel : decode (bOf 50) 0 = .ok (.iload_n 1, 1)) rfl
theorem x_50_1 : Ev d 50 1 L (.int x :: st) μ Q = if x < iI 0 then Ev d 50 21 L st μ Q else Ev d 50 4 L st μ Q := e_if_lt (by decide +kernel : decode (bOf 50) 1 = .ok (.ifCond .lt 20, 3)) (by omega)
theorem x_50_4 : Ev d 50 4 (a0 :: .int x :: L) st μ Q = Ev d 50 5 (a0 :: .int x :: L) (.int x :: st) μ Q := e_iload_n (by decide +kernel : decode (bOf 50) 4 = .ok (.iload_n 1, 1)) rfl
theorem x_50_5 : Ev d 50 5 (.ref r :: L) st μ Q = Ev d 50 6 (.ref r :: L) (.ref r :: st) μ Q := e_aload_n (by decide +kernel : decode (bOf 50) 5 = .ok (.aload_n 0, 1)) rfl
theorem x_50_6 (h : kd t r = 4) : Ev d 50 6 L (.ref r :: st) (t, V, A, P) Q = Ev d 50 9 L (V r 0 :: st) (t, V, A, P) Q := e_getf (by decide +kernel : decode (bOf 50) 6 = .ok (.getfield 12, 3)) (by decide +kernel) (by decide +kernel) h
theorem x_50_9 (h : kd t r = 3) : Ev d 50 9 L (.ref r :: st) (t, V, A, P) Q = Ev d 50 12 L (V r 3 :: st) (t, V, A, P) Q := e_getf (by decide +kernel : decode (bOf 50) 9 = .ok (.getfield 63, 3)) (by decide +kernel) (by decide +kernel) h
theorem x_50_12 : Ev d 50 12 L (.int y :: .int x :: st) μ Q = if x < y then Ev d 50 15 L st μ Q else Ev d 50 21 L st μ Q := e_icmp_ge (by decide +kernel : decode (bOf 50) 12 = .ok (.if_icmp .ge 9, 3)) (by omega)
theorem x_50_15 : Ev d 50 15 (a0 :: .int x :: L) st μ Q = Ev d 50 16 (a0 :: .int x :: L) (.int x :: st) μ Q := e_iload_n (by decide +kernel : decode (bOf 50) 15 = .ok (.iload_n 1, 1)) rfl
theorem x_50_16 : Ev d 50 16 L st μ Q = Ev d 50 18 L (.int (iI 32) :: st) μ Q := e_bipush (by decide +kernel : decode (bOf 50) 16 = .ok (.bipush 32, 2)) (by decide +kernel)
theorem x_50_18 : Ev d 50 18 L (.int y :: .int x :: st) μ Q = if x < y then Ev d 50 23 L st μ Q else Ev d 50 21 L st μ Q := e_icmp_lt (by decide +kernel : decode (bOf 50) 18 = .ok (.if_icmp .lt 5, 3)) (by omega)
theorem x_50_21 : Ev d 50 21 L st μ Q = Ev d 50 22 L (.int (iI (-1)) :: st) μ Q := e_iconst (by decide +kernel : decode (bOf 50) 21 = .ok (.iconst (-1), 1))
theorem x_50_22 : Ev d 50 22 L [.int x] μ Q = Q (some (.int x)) μ := e_iret (by decide +kernel : decode (bOf 50) 22 = .ok (.ireturn, 1)) (by decide +kernel)
theorem x_50_23 : Ev d 50 23 (.ref r :: L) st μ Q = Ev d 50 24 (.ref r :: L) (.ref r :: st) μ Q := e_aload_n (by decide +kernel : decode (bOf 50) 23 = .ok (.aload_n 0, 1)) rfl
theorem x_50_24 (h : kd t r = 4) : Ev d 50 24 L (.ref r :: st) (t, V, A, P) Q = Ev d 50 27 L (V r 0 :: st) (t, V, A, P) Q := e_getf (by decide +kernel : decode (bOf 50) 24 = .ok (.getfield 12, 3)) (by decide +kernel) (by decide +kernel) h
theorem x_50_27 (h : kd t r = 3) : Ev d 50 27 L (.ref r :: st) (t, V, A, P) Q = Ev d 50 30 L (V r 0 :: st) (t, V, A, P) Q := e_getf (by decide +kernel : decode (bOf 50) 27 = .ok (.getfield 112, 3)) (by decide +kernel) (by decide +kernel) h
theorem x_50_30 : Ev d 50 30 (a0 :: .int x :: L) st μ Q = Ev d 50 31 (a0 :: .int x :: L) (.int x :: st) μ Q := e_iload_n (by decide +kernel : decode (bOf 50) 30 = .ok (.iload_n 1, 1)) rfl
theorem x_50_31 (h : kd t r = 6) (hi : inB x (ln t r) = true) : Ev d 50 31 L (.int x :: .ref r :: st) (t, V, A, P) Q = Ev d 50 32 L (.int (A r x.toNatClampNeg) :: st) (t, V, A, P) Q := e_iald (by decide +kernel : decode (bOf 50) 31 = .ok (.iaload, 1)) h hi
theorem x_50_32 : Ev d 50 32 L [.int x] μ Q = Q (some (.int x)) μ := e_iret (by decide +kernel : decode (bOf 50) 32 = .ok (.ireturn, 1)) (by decide +kernel)
theorem c_51 : Call (d + 1) 51 [.ref r0, .int i1] μ Q = Ev d 51 0 [.ref r0, .int i1] [] μ Q := call_ev rfl rfl 
theorem x_51_0 : Ev d 51 0 (a0 :: .int x :: L) st μ Q = Ev d 51 1 (a0 :: .int x :: L) (.int x :: st) μ Q := e_iload_n (by decide +kernel : decode (bOf 51) 0 = .ok (.iload_n 1, 1)) rfl
theorem x_51_1 : Ev d 51 1 L (.int x :: st) μ Q = if x < iI 0 then Ev d 51 4 L st μ Q else Ev d 51 6 L st μ Q := e_if_ge (by decide +kernel : decode (bOf 51) 1 = .ok (.ifCond .ge 5, 3)) (by omega)
theorem x_51_4 : Ev d 51 4 L st μ Q = Ev d 51 5 L (.int (iI (-1)) :: st) μ Q := e_iconst (by decide +kernel : decode (bOf 51) 4 = .ok (.iconst (-1), 1))
theorem x_51_5 : Ev d 51 5 L [.int x] μ Q = Q (some (.int x)) μ := e_iret (by decide +kernel : decode (bOf 51) 5 = .ok (.ireturn, 1)) (by decide +kernel)
theorem x_51_6 : Ev d 51 6 (.ref r :: L) st μ Q = Ev d 51 7 (.ref r :: L) (.ref r :: st) μ Q := e_aload_n (by decide +kernel : decode (bOf 51) 6 = .ok (.aload_n 0, 1)) rfl
theorem x_51_7 (h : kd t r = 4) : Ev d 51 7 L (.ref r :: st) (t, V, A, P) Q = Ev d 51 10 L (V r 0 :: st) (t, V, A, P) Q := e_getf (by decide +kernel : decode (bOf 51) 7 = .ok (.getfield 12, 3)) (by decide +kernel) (by decide +kernel) h
theorem x_51_10 : Ev d 51 10 (a0 :: .int x :: L) st μ Q = Ev d 51 11 (a0 :: .int x :: L) (.int x :: st) μ Q := e_iload_n (by decide +kernel : decode (bOf 51) 10 = .ok (.iload_n 1, 1)) rfl
theorem x_51_11 (h : kd t r = 3) : Ev d 51 11 L [b0, .ref r] (t, V, A, P) Q = Call d 31 [.ref r, b0] (t, V, A, P) (fun v μ1 => Ev d 51 14 L (v.toList ++ []) μ1 Q) := e_callV (a := [b0]) (r := []) (by decide +kernel : decode (bOf 51) 11 = .ok (.invokevirtual 115, 3)) (by decide +kernel) (by decide +kernel) (by decide +kernel) (by omega) rfl (by simp) (by decide +kernel) h
theorem x_51_14 : Ev d 51 14 L [.int x] μ Q = Q (some (.int x)) μ := e_iret (by decide +kernel : decode (bOf 51) 14 = .ok (.ireturn, 1)) (by decide +kernel)
theorem c_52 : Call (d + 1) 52 [.ref r0, .int i1, .int i2, .int i3, .int i4] μ Q = Ev d 52 0 [.ref r0, .int i1, .int i2, .int i3, .int i4, .null] [] μ Q := call_ev rfl rfl 
theorem x_52_0 : Ev d 52 0 (a0 :: .int x :: L) st μ Q = Ev d 52 1 (a0 :: .int x :: L) (.int x :: st) μ Q := e_iload_n (by decide +kernel : decode (bOf 52) 0 = .ok (.iload_n 1, 1)) rfl
theorem x_52_1 : Ev d 52 1 (a0 :: a1 :: .int x :: L) st μ Q = Ev d 52 2 (a0 :: a1 :: .int x :: L) (.int x :: st) μ Q := e_iload_n (by decide +kernel : decode (bOf 52) 1 = .ok (.iload_n 2, 1)) rfl
theorem x_52_2 : Ev d 52 2 L [b1, b0] μ Q = Call d 72 [b0, b1] μ (fun v μ1 => Ev d 52 5 L (v.toList ++ []) μ1 Q) := e_callS (a := [b0, b1]) (r := []) (by decide +kernel : decode (bOf 52) 2 = .ok (.invokestatic 118, 3)) (by decide +kernel) (by decide +kernel) (by omega) rfl (by simp)
theorem x_52_5 : Ev d 52 5 L (.int x :: st) μ Q = if x = iI 0 then Ev d 52 23 L st μ Q else Ev d 52 8 L st μ Q := e_if_eq (by decide +kernel : decode (bOf 52) 5 = .ok (.ifCond .eq 18, 3)) (by omega)
theorem x_52_8 : Ev d 52 8 (a0 :: a1 :: a2 :: .int x :: L) st μ Q = Ev d 52 9 (a0 :: a1 :: a2 :: .int x :: L) (.int x :: st) μ Q := e_iload_n (by decide +kernel : decode (bOf 52) 8 = .ok (.iload_n 3, 1)) rfl
theorem x_52_9 : Ev d 52 9 L (.int x :: st) μ Q = if x < iI 0 then Ev d 52 23 L st μ Q else Ev d 52 12 L st μ Q := e_if_lt (by decide +kernel : decode (bOf 52) 9 = .ok (.ifCond .lt 14, 3)) (by omega)
theorem x_52_12 : Ev d 52 12 (a0 :: a1 :: a2 :: a3 :: .int x :: L) st μ Q = Ev d 52 14 (a0 :: a1 :: a2 :: a3 :: .int x :: L) (.int x :: st) μ Q := e_iload (by decide +kernel : decode (bOf 52) 12 = .ok (.iload 4, 2)) rfl
theorem x_52_14 : Ev d 52 14 L (.int x :: st) μ Q = if x < iI 0 then Ev d 52 23 L st μ Q else Ev d 52 17 L st μ Q := e_if_lt (by decide +kernel : decode (bOf 52) 14 = .ok (.ifCond .lt 9, 3)) (by omega)
theorem x_52_17 : Ev d 52 17 (a0 :: a1 :: a2 :: a3 :: .int x :: L) st μ Q = Ev d 52 19 (a0 :: a1 :: a2 :: a3 :: .int x :: L) (.int x :: st) μ Q := e_iload (by decide +kernel : decode (bOf 52) 17 = .ok (.iload 4, 2)) rfl
theorem x_52_19 : Ev d 52 19 L st μ Q = Ev d 52 20 L (.int (iI 4) :: st) μ Q := e_iconst (by decide +kernel : decode (bOf 52) 19 = .ok (.iconst 4, 1))
theorem x_52_20 : Ev d 52 20 L (.int y :: .int x :: st) μ Q = if y < x then Ev d 52 23 L st μ Q else Ev d 52 25 L st μ Q := e_icmp_le (by decide +kernel : decode (bOf 52) 20 = .ok (.if_icmp .le 5, 3)) (by omega)
theorem x_52_23 : Ev d 52 23 L st μ Q = Ev d 52 24 L (.int (iI (-1)) :: st) μ Q := e_iconst (by decide +kernel : decode (bOf 52) 23 = .ok (.iconst (-1), 1))
theorem x_52_24 : Ev d 52 24 L [.int x] μ Q = Q (some (.int x)) μ := e_iret (by decide +kernel : decode (bOf 52) 24 = .ok (.ireturn, 1)) (by decide +kernel)
theorem x_52_25 : Ev d 52 25 (.ref r :: L) st μ Q = Ev d 52 26 (.ref r :: L) (.ref r :: st) μ Q := e_aload_n (by decide +kernel : decode (bOf 52) 25 = .ok (.aload_n 0, 1)) rfl
theorem x_52_26 (h : kd t r = 4) : Ev d 52 26 L (.ref r :: st) (t, V, A, P) Q = Ev d 52 29 L (V r 6 :: st) (t, V, A, P) Q := e_getf (by decide +kernel : decode (bOf 52) 26 = .ok (.getfield 37, 3)) (by decide +kernel) (by decide +kernel) h
theorem x_52_29 : Ev d 52 29 (.ref r :: L) st μ Q = Ev d 52 30 (.ref r :: L) (.ref r :: st) μ Q := e_aload_n (by decide +kernel : decode (bOf 52) 29 = .ok (.aload_n 0, 1)) rfl
theorem x_52_30 (h : kd t r = 4) : Ev d 52 30 L (.ref r :: st) (t, V, A, P) Q = Ev d 52 33 L (V r 0 :: st) (t, V, A, P) Q := e_getf (by decide +kernel : decode (bOf 52) 30 = .ok (.getfield 12, 3)) (by decide +kernel) (by decide +kernel) h
theorem x_52_33 : Ev d 52 33 (a0 :: .int x :: L) st μ Q = Ev d 52 34 (a0 :: .int x :: L) (.int x :: st) μ Q := e_iload_n (by decide +kernel : decode (bOf 52) 33 = .ok (.iload_n 1, 1)) rfl
theorem x_52_34 : Ev d 52 34 (a0 :: a1 :: .int x :: L) st μ Q = Ev d 52 35 (a0 :: a1 :: .int x :: L) (.int x :: st) μ Q := e_iload_n (by decide +kernel : decode (bOf 52) 34 = .ok (.iload_n 2, 1)) rfl
theorem x_52_35 : Ev d 52 35 L [b0, s0, s1, s2] μ Q = Call d 73 [b0] μ (fun v μ1 => Ev d 52 38 L (v.toList ++ [s0, s1, s2]) μ1 Q) := e_callS (a := [b0]) (r := [s0, s1, s2]) (by decide +kernel : decode (bOf 52) 35 = .ok (.invokestatic 105, 3)) (by decide +kernel) (by decide +kernel) (by omega) rfl (by simp)
theorem x_52_38 (h : kd t r = 1) : Ev d 52 38 L [b2, b1, b0, .ref r] (t, V, A, P) Q = Call d 11 [.ref r, b0, b1, b2] (t, V, A, P) (fun v μ1 => Ev d 52 41 L (v.toList ++ []) μ1 Q) := e_callV (a := [b0, b1, b2]) (r := []) (by decide +kernel : decode (bOf 52) 38 = .ok (.invokevirtual 122, 3)) (by decide +kernel) (by decide +kernel) (by decide +kernel) (by omega) rfl (by simp) (by decide +kernel) h
theorem x_52_41 : Ev d 52 41 (a0 :: a1 :: a2 :: .int x :: L) st μ Q = Ev d 52 42 (a0 :: a1 :: a2 :: .int x :: L) (.int x :: st) μ Q := e_iload_n (by decide +kernel : decode (bOf 52) 41 = .ok (.iload_n 3, 1)) rfl
theorem x_52_42 : Ev d 52 42 (.ref r :: L) st μ Q = Ev d 52 43 (.ref r :: L) (.ref r :: st) μ Q := e_aload_n (by decide +kernel : decode (bOf 52) 42 = .ok (.aload_n 0, 1)) rfl
theorem x_52_43 (h : kd t r = 4) : Ev d 52 43 L (.ref r :: st) (t, V, A, P) Q = Ev d 52 46 L (V r 6 :: st) (t, V, A, P) Q := e_getf (by decide +kernel : decode (bOf 52) 43 = .ok (.getfield 37, 3)) (by decide +kernel) (by decide +kernel) h
theorem x_52_46 (h : kd t r = 1) : Ev d 52 46 L (.ref r :: st) (t, V, A, P) Q = Ev d 52 49 L (V r 5 :: st) (t, V, A, P) Q := e_getf (by decide +kernel : decode (bOf 52) 46 = .ok (.getfield 126, 3)) (by decide +kernel) (by decide +kernel) h
theorem x_52_49 : Ev d 52 49 L (.int y :: .int x :: st) μ Q = if x < y then Ev d 52 55 L st μ Q else Ev d 52 52 L st μ Q := e_icmp_lt (by decide +kernel : decode (bOf 52) 49 = .ok (.if_icmp .lt 6, 3)) (by omega)
theorem x_52_52 : Ev d 52 52 L st μ Q = Ev d 52 54 L (.int (iI (-9)) :: st) μ Q := e_bipush (by decide +kernel : decode (bOf 52) 52 = .ok (.bipush (-9), 2)) (by decide +kernel)
theorem x_52_54 : Ev d 52 54 L [.int x] μ Q = Q (some (.int x)) μ := e_iret (by decide +kernel : decode (bOf 52) 54 = .ok (.ireturn, 1)) (by decide +kernel)
theorem x_52_55 : Ev d 52 55 (.ref r :: L) st μ Q = Ev d 52 56 (.ref r :: L) (.ref r :: st) μ Q := e_aload_n (by decide +kernel : decode (bOf 52) 55 = .ok (.aload_n 0, 1)) rfl
theorem x_52_56 (h : kd t r = 4) : Ev d 52 56 L (.ref r :: st) (t, V, A, P) Q = Ev d 52 59 L (V r 6 :: st) (t, V, A, P) Q := e_getf (by decide +kernel : decode (bOf 52) 56 = .ok (.getfield 37, 3)) (by decide +kernel) (by decide +kernel) h
theorem x_52_59 : Ev d 52 59 (a0 :: a1 :: a2 :: .int x :: L) st μ Q = Ev d 52 60 (a0 :: a1 :: a2 :: .int x :: L) (.int x :: st) μ Q := e_iload_n (by decide +kernel : decode (bOf 52) 59 = .ok (.iload_n 3, 1)) rfl
theorem x_52_60 (h : kd t r = 1) : Ev d 52 60 L [b0, .ref r] (t, V, A, P) Q = Call d 12 [.ref r, b0] (t, V, A, P) (fun v μ1 => Ev d 52 63 L (v.toList ++ []) μ1 Q) := e_callV (a := [b0]) (r := []) (by decide +kernel : decode (bOf 52) 60 = .ok (.invokevirtual 129, 3)) (by decide +kernel) (by decide +kernel) (by decide +kernel) (by omega) rfl (by simp) (by decide +kernel) h
theorem x_52_63 (h : a4.category = 1) : Ev d 52 63 (a0 :: a1 :: a2 :: a3 :: a4 :: a5 :: L) (.int x :: st) μ Q = Ev d 52 65 (a0 :: a1 :: a2 :: a3 :: a4 :: .int x :: L) st μ Q := e_istore (by decide +kernel : decode (bOf 52) 63 = .ok (.istore 5, 2)) (by show stOK _ 5 = true; simp [stOK, h])
theorem x_52_65 : Ev d 52 65 (a0 :: a1 :: a2 :: a3 :: .int x :: L) st μ Q = Ev d 52 67 (a0 :: a1 :: a2 :: a3 :: .int x :: L) (.int x :: st) μ Q := e_iload (by decide +kernel : decode (bOf 52) 65 = .ok (.iload 4, 2)) rfl
theorem x_52_67 : Ev d 52 67 L (.int x :: st) μ Q = if x = iI 0 then Ev d 52 96 L st μ Q else if x = iI 1 then Ev d 52 99 L st μ Q else if x = iI 2 then Ev d 52 105 L st μ Q else if x = iI 3 then Ev d 52 127 L st μ Q else Ev d 52 136 L st μ Q := by
  have hd : decode (bOf 52) 67 = .ok (.tableswitch 69 0 3 #[29, 32, 38, 60], 29) := by decide +kernel
  by_cases h0 : x = iI 0
  · rw [if_pos h0]; exact e_sw hd (sw_in (off := 29) h0 (by omega) (by omega) (by omega) rfl (by omega))
  rw [if_neg h0]
  by_cases h1 : x = iI 1
  · rw [if_pos h1]; exact e_sw hd (sw_in (off := 32) h1 (by omega) (by omega) (by omega) rfl (by omega))
  rw [if_neg h1]
  by_cases h2 : x = iI 2
  · rw [if_pos h2]; exact e_sw hd (sw_in (off := 38) h2 (by omega) (by omega) (by omega) rfl (by omega))
  rw [if_neg h2]
  by_cases h3 : x = iI 3
  · rw [if_pos h3]; exact e_sw hd (sw_in (off := 60) h3 (by omega) (by omega) (by omega) rfl (by omega))
  rw [if_neg h3]
  have g0 := ne_toInt h0
  have g1 := ne_toInt h1
  have g2 := ne_toInt h2
  have g3 := ne_toInt h3
  exact e_sw hd (sw_out (by omega) (by omega))
theorem x_52_96 : Ev d 52 96 (a0 :: a1 :: a2 :: a3 :: a4 :: .int x :: L) st μ Q = Ev d 52 98 (a0 :: a1 :: a2 :: a3 :: a4 :: .int x :: L) (.int x :: st) μ Q := e_iload (by decide +kernel : decode (bOf 52) 96 = .ok (.iload 5, 2)) rfl
theorem x_52_98 : Ev d 52 98 L [.int x] μ Q = Q (some (.int x)) μ := e_iret (by decide +kernel : decode (bOf 52) 98 = .ok (.ireturn, 1)) (by decide +kernel)
theorem x_52_99 : Ev d 52 99 (a0 :: a1 :: a2 :: a3 :: a4 :: .int x :: L) st μ Q = Ev d 52 101 (a0 :: a1 :: a2 :: a3 :: a4 :: .int x :: L) (.int x :: st) μ Q := e_iload (by decide +kernel : decode (bOf 52) 99 = .ok (.iload 5, 2)) rfl
theorem x_52_101 : Ev d 52 101 L [b0] μ Q = Call d 1 [b0] μ (fun v μ1 => Ev d 52 104 L (v.toList ++ []) μ1 Q) := e_callS (a := [b0]) (r := []) (by decide +kernel : decode (bOf 52) 101 = .ok (.invokestatic 132, 3)) (by decide +kernel) (by decide +kernel) (by omega) rfl (by simp)
theorem x_52_104 : Ev d 52 104 L [.int x] μ Q = Q (some (.int x)) μ := e_iret (by decide +kernel : decode (bOf 52) 104 = .ok (.ireturn, 1)) (by decide +kernel)
theorem x_52_105 : Ev d 52 105 (a0 :: a1 :: a2 :: a3 :: a4 :: .int x :: L) st μ Q = Ev d 52 107 (a0 :: a1 :: a2 :: a3 :: a4 :: .int x :: L) (.int x :: st) μ Q := e_iload (by decide +kernel : decode (bOf 52) 105 = .ok (.iload 5, 2)) rfl
theorem x_52_107 : Ev d 52 107 (.ref r :: L) st μ Q = Ev d 52 108 (.ref r :: L) (.ref r :: st) μ Q := e_aload_n (by decide +kernel : decode (bOf 52) 107 = .ok (.aload_n 0, 1)) rfl
theorem x_52_108 (h : kd t r = 4) : Ev d 52 108 L (.ref r :: st) (t, V, A, P) Q = Ev d 52 111 L (V r 6 :: st) (t, V, A, P) Q := e_getf (by decide +kernel : decode (bOf 52) 108 = .ok (.getfield 37, 3)) (by decide +kernel) (by decide +kernel) h
theorem x_52_111 : Ev d 52 111 (a0 :: a1 :: a2 :: .int x :: L) st μ Q = Ev d 52 112 (a0 :: a1 :: a2 :: .int x :: L) (.int x :: st) μ Q := e_iload_n (by decide +kernel : decode (bOf 52) 111 = .ok (.iload_n 3, 1)) rfl
theorem x_52_112 (h : kd t r = 1) : Ev d 52 112 L [b0, .ref r, s0] (t, V, A, P) Q = Call d 13 [.ref r, b0] (t, V, A, P) (fun v μ1 => Ev d 52 115 L (v.toList ++ [s0]) μ1 Q) := e_callV (a := [b0]) (r := [s0]) (by decide +kernel : decode (bOf 52) 112 = .ok (.invokevirtual 135, 3)) (by decide +kernel) (by decide +kernel) (by decide +kernel) (by omega) rfl (by simp) (by decide +kernel) h
theorem x_52_115 : Ev d 52 115 L [b1, b0] μ Q = Call d 2 [b0, b1] μ (fun v μ1 => Ev d 52 118 L (v.toList ++ []) μ1 Q) := e_callS (a := [b0, b1]) (r := []) (by decide +kernel : decode (bOf 52) 115 = .ok (.invokestatic 138, 3)) (by decide +kernel) (by decide +kernel) (by omega) rfl (by simp)
theorem x_52_118 : Ev d 52 118 L (.int x :: st) μ Q = if x = iI 0 then Ev d 52 125 L st μ Q else Ev d 52 121 L st μ Q := e_if_eq (by decide +kernel : decode (bOf 52) 118 = .ok (.ifCond .eq 7, 3)) (by omega)
theorem x_52_121 : Ev d 52 121 L st μ Q = Ev d 52 122 L (.int (iI 1) :: st) μ Q := e_iconst (by decide +kernel : decode (bOf 52) 121 = .ok (.iconst 1, 1))
theorem x_52_122 : Ev d 52 122 L st μ Q = Ev d 52 126 L st μ Q := e_goto (by decide +kernel : decode (bOf 52) 122 = .ok (.goto 4, 3)) (by omega)
theorem x_52_125 : Ev d 52 125 L st μ Q = Ev d 52 126 L (.int (iI 0) :: st) μ Q := e_iconst (by decide +kernel : decode (bOf 52) 125 = .ok (.iconst 0, 1))
theorem x_52_126 : Ev d 52 126 L [.int x] μ Q = Q (some (.int x)) μ := e_iret (by decide +kernel : decode (bOf 52) 126 = .ok (.ireturn, 1)) (by decide +kernel)
theorem x_52_127 : Ev d 52 127 (.ref r :: L) st μ Q = Ev d 52 128 (.ref r :: L) (.ref r :: st) μ Q := e_aload_n (by decide +kernel : decode (bOf 52) 127 = .ok (.aload_n 0, 1)) rfl
theorem x_52_128 (h : kd t r = 4) : Ev d 52 128 L (.ref r :: st) (t, V, A, P) Q = Ev d 52 131 L (V r 6 :: st) (t, V, A, P) Q := e_getf (by decide +kernel : decode (bOf 52) 128 = .ok (.getfield 37, 3)) (by decide +kernel) (by decide +kernel) h
theorem x_52_131 : Ev d 52 131 (a0 :: a1 :: a2 :: .int x :: L) st μ Q = Ev d 52 132 (a0 :: a1 :: a2 :: .int x :: L) (.int x :: st) μ Q := e_iload_n (by decide +kernel : decode (bOf 52) 131 = .ok (.iload_n 3, 1)) rfl
theorem x_52_132 (h : kd t r = 1) : Ev d 52 132 L [b0, .ref r] (t, V, A, P) Q = Call d 15 [.ref r, b0] (t, V, A, P) (fun v μ1 => Ev d 52 135 L (v.toList ++ []) μ1 Q) := e_callV (a := [b0]) (r := []) (by decide +kernel : decode (bOf 52) 132 = .ok (.invokevirtual 141, 3)) (by decide +kernel) (by decide +kernel) (by decide +kernel) (by omega) rfl (by simp) (by decide +kernel) h
theorem x_52_135 : Ev d 52 135 L [.int x] μ Q = Q (some (.int x)) μ := e_iret (by decide +kernel : decode (bOf 52) 135 = .ok (.ireturn, 1)) (by decide +kernel)
theorem x_52_136 : Ev d 52 136 (.ref r :: L) st μ Q = Ev d 52 137 (.ref r :: L) (.ref r :: st) μ Q := e_aload_n (by decide +kernel : decode (bOf 52) 136 = .ok (.aload_n 0, 1)) rfl
theorem x_52_137 (h : kd t r = 4) : Ev d 52 137 L (.ref r :: st) (t, V, A, P) Q = Ev d 52 140 L (V r 6 :: st) (t, V, A, P) Q := e_getf (by decide +kernel : decode (bOf 52) 137 = .ok (.getfield 37, 3)) (by decide +kernel) (by decide +kernel) h
theorem x_52_140 : Ev d 52 140 (a0 :: a1 :: a2 :: .int x :: L) st μ Q = Ev d 52 141 (a0 :: a1 :: a2 :: .int x :: L) (.int x :: st) μ Q := e_iload_n (by decide +kernel : decode (bOf 52) 140 = .ok (.iload_n 3, 1)) rfl
theorem x_52_141 (h : kd t r = 1) : Ev d 52 141 L [b0, .ref r] (t, V, A, P) Q = Call d 14 [.ref r, b0] (t, V, A, P) (fun v μ1 => Ev d 52 144 L (v.toList ++ []) μ1 Q) := e_callV (a := [b0]) (r := []) (by decide +kernel : decode (bOf 52) 141 = .ok (.invokevirtual 144, 3)) (by decide +kernel) (by decide +kernel) (by decide +kernel) (by omega) rfl (by simp) (by decide +kernel) h
theorem x_52_144 : Ev d 52 144 L [b0] μ Q = Call d 74 [b0] μ (fun v μ1 => Ev d 52 147 L (v.toList ++ []) μ1 Q) := e_callS (a := [b0]) (r := []) (by decide +kernel : decode (bOf 52) 144 = .ok (.invokestatic 147, 3)) (by decide +kernel) (by decide +kernel) (by omega) rfl (by simp)
theorem x_52_147 : Ev d 52 147 L [.int x] μ Q = Q (some (.int x)) μ := e_iret (by decide +kernel : decode (bOf 52) 147 = .ok (.ireturn, 1)) (by decide +kernel)
theorem c_53 : Call (d + 1) 53 [.ref r0, .int i1, .int i2, .int i3] μ Q = Ev d 53 0 [.ref r0, .int i1, .int i2, .int i3] [] μ Q := call_ev rfl rfl 
theorem x_53_0 : Ev d 53 0 (a0 :: .int x :: L) st μ Q = Ev d 53 1 (a0 :: .int x :: L) (.int x :: st) μ Q := e_iload_n (by decide +kernel : decode (bOf 53) 0 = .ok (.iload_n 1, 1)) rfl
theorem x_53_1 : Ev d 53 1 (a0 :: a1 :: .int x :: L) st μ Q = Ev d 53 2 (a0 :: a1 :: .int x :: L) (.int x :: st) μ Q := e_iload_n (by decide +kernel : decode (bOf 53) 1 = .ok (.iload_n 2, 1)) rfl
theorem x_53_2 : Ev d 53 2 L [b1, b0] μ Q = Call d 72 [b0, b1] μ (fun v μ1 => Ev d 53 5 L (v.toList ++ []) μ1 Q) := e_callS (a := [b0, b1]) (r := []) (by decide +kernel : decode (bOf 53) 2 = .ok (.invokestatic 118, 3)) (by decide +kernel) (by decide +kernel) (by omega) rfl (by simp)
theorem x_53_5 : Ev d 53 5 L (.int x :: st) μ Q = if x = iI 0 then Ev d 53 17 L st μ Q else Ev d 53 8 L st μ Q := e_if_eq (by decide +kernel : decode (bOf 53) 5 = .ok (.ifCond .eq 12, 3)) (by omega)
theorem x_53_8 : Ev d 53 8 (a0 :: a1 :: a2 :: .int x :: L) st μ Q = Ev d 53 9 (a0 :: a1 :: a2 :: .int x :: L) (.int x :: st) μ Q := e_iload_n (by decide +kernel : decode (bOf 53) 8 = .ok (.iload_n 3, 1)) rfl
theorem x_53_9 : Ev d 53 9 L (.int x :: st) μ Q = if x < iI 0 then Ev d 53 17 L st μ Q else Ev d 53 12 L st μ Q := e_if_lt (by decide +kernel : decode (bOf 53) 9 = .ok (.ifCond .lt 8, 3)) (by omega)
theorem x_53_12 : Ev d 53 12 (a0 :: a1 :: a2 :: .int x :: L) st μ Q = Ev d 53 13 (a0 :: a1 :: a2 :: .int x :: L) (.int x :: st) μ Q := e_iload_n (by decide +kernel : decode (bOf 53) 12 = .ok (.iload_n 3, 1)) rfl
theorem x_53_13 : Ev d 53 13 L st μ Q = Ev d 53 14 L (.int (iI 5) :: st) μ Q := e_iconst (by decide +kernel : decode (bOf 53) 13 = .ok (.iconst 5, 1))
theorem x_53_14 : Ev d 53 14 L (.int y :: .int x :: st) μ Q = if y < x then Ev d 53 17 L st μ Q else Ev d 53 20 L st μ Q := e_icmp_le (by decide +kernel : decode (bOf 53) 14 = .ok (.if_icmp .le 6, 3)) (by omega)
theorem x_53_17 : Ev d 53 17 L st μ Q = Ev d 53 19 L (.int (iI (-1000000)) :: st) μ Q := e_ldc (by decide +kernel : decode (bOf 53) 17 = .ok (.ldc 150, 2)) (by decide +kernel)
theorem x_53_19 : Ev d 53 19 L [.int x] μ Q = Q (some (.int x)) μ := e_iret (by decide +kernel : decode (bOf 53) 19 = .ok (.ireturn, 1)) (by decide +kernel)
theorem x_53_20 : Ev d 53 20 (.ref r :: L) st μ Q = Ev d 53 21 (.ref r :: L) (.ref r :: st) μ Q := e_aload_n (by decide +kernel : decode (bOf 53) 20 = .ok (.aload_n 0, 1)) rfl
theorem x_53_21 (h : kd t r = 4) : Ev d 53 21 L (.ref r :: st) (t, V, A, P) Q = Ev d 53 24 L (V r 6 :: st) (t, V, A, P) Q := e_getf (by decide +kernel : decode (bOf 53) 21 = .ok (.getfield 37, 3)) (by decide +kernel) (by decide +kernel) h
theorem x_53_24 : Ev d 53 24 (.ref r :: L) st μ Q = Ev d 53 25 (.ref r :: L) (.ref r :: st) μ Q := e_aload_n (by decide +kernel : decode (bOf 53) 24 = .ok (.aload_n 0, 1)) rfl
theorem x_53_25 (h : kd t r = 4) : Ev d 53 25 L (.ref r :: st) (t, V, A, P) Q = Ev d 53 28 L (V r 0 :: st) (t, V, A, P) Q := e_getf (by decide +kernel : decode (bOf 53) 25 = .ok (.getfield 12, 3)) (by decide +kernel) (by decide +kernel) h
theorem x_53_28 : Ev d 53 28 (a0 :: .int x :: L) st μ Q = Ev d 53 29 (a0 :: .int x :: L) (.int x :: st) μ Q := e_iload_n (by decide +kernel : decode (bOf 53) 28 = .ok (.iload_n 1, 1)) rfl
theorem x_53_29 : Ev d 53 29 (a0 :: a1 :: .int x :: L) st μ Q = Ev d 53 30 (a0 :: a1 :: .int x :: L) (.int x :: st) μ Q := e_iload_n (by decide +kernel : decode (bOf 53) 29 = .ok (.iload_n 2, 1)) rfl
theorem x_53_30 : Ev d 53 30 L [b0, s0, s1, s2] μ Q = Call d 73 [b0] μ (fun v μ1 => Ev d 53 33 L (v.toList ++ [s0, s1, s2]) μ1 Q) := e_callS (a := [b0]) (r := [s0, s1, s2]) (by decide +kernel : decode (bOf 53) 30 = .ok (.invokestatic 105, 3)) (by decide +kernel) (by decide +kernel) (by omega) rfl (by simp)
theorem x_53_33 (h : kd t r = 1) : Ev d 53 33 L [b2, b1, b0, .ref r] (t, V, A, P) Q = Call d 11 [.ref r, b0, b1, b2] (t, V, A, P) (fun v μ1 => Ev d 53 36 L (v.toList ++ []) μ1 Q) := e_callV (a := [b0, b1, b2]) (r := []) (by decide +kernel : decode (bOf 53) 33 = .ok (.invokevirtual 122, 3)) (by decide +kernel) (by decide +kernel) (by decide +kernel) (by omega) rfl (by simp) (by decide +kernel) h
theorem x_53_36 : Ev d 53 36 (a0 :: a1 :: a2 :: .int x :: L) st μ Q = Ev d 53 37 (a0 :: a1 :: a2 :: .int x :: L) (.int x :: st) μ Q := e_iload_n (by decide +kernel : decode (bOf 53) 36 = .ok (.iload_n 3, 1)) rfl
theorem x_53_37 : Ev d 53 37 L (.int x :: st) μ Q = if x = iI 0 then Ev d 53 40 L st μ Q else Ev d 53 48 L st μ Q := e_if_ne (by decide +kernel : decode (bOf 53) 37 = .ok (.ifCond .ne 11, 3)) (by omega)
theorem x_53_40 : Ev d 53 40 (.ref r :: L) st μ Q = Ev d 53 41 (.ref r :: L) (.ref r :: st) μ Q := e_aload_n (by decide +kernel : decode (bOf 53) 40 = .ok (.aload_n 0, 1)) rfl
theorem x_53_41 (h : kd t r = 4) : Ev d 53 41 L (.ref r :: st) (t, V, A, P) Q = Ev d 53 44 L (V r 6 :: st) (t, V, A, P) Q := e_getf (by decide +kernel : decode (bOf 53) 41 = .ok (.getfield 37, 3)) (by decide +kernel) (by decide +kernel) h
theorem x_53_44 (h : kd t r = 1) : Ev d 53 44 L (.ref r :: st) (t, V, A, P) Q = Ev d 53 47 L (V r 5 :: st) (t, V, A, P) Q := e_getf (by decide +kernel : decode (bOf 53) 44 = .ok (.getfield 126, 3)) (by decide +kernel) (by decide +kernel) h
theorem x_53_47 : Ev d 53 47 L [.int x] μ Q = Q (some (.int x)) μ := e_iret (by decide +kernel : decode (bOf 53) 47 = .ok (.ireturn, 1)) (by decide +kernel)
theorem x_53_48 : Ev d 53 48 (.ref r :: L) st μ Q = Ev d 53 49 (.ref r :: L) (.ref r :: st) μ Q := e_aload_n (by decide +kernel : decode (bOf 53) 48 = .ok (.aload_n 0, 1)) rfl
theorem x_53_49 (h : kd t r = 4) : Ev d 53 49 L (.ref r :: st) (t, V, A, P) Q = Ev d 53 52 L (V r 6 :: st) (t, V, A, P) Q := e_getf (by decide +kernel : decode (bOf 53) 49 = .ok (.getfield 37, 3)) (by decide +kernel) (by decide +kernel) h
theorem x_53_52 (h : kd t r = 1) : Ev d 53 52 L [.ref r] (t, V, A, P) Q = Call d 16 [.ref r] (t, V, A, P) (fun v μ1 => Ev d 53 55 L (v.toList ++ []) μ1 Q) := e_callV (a := []) (r := []) (by decide +kernel : decode (bOf 53) 52 = .ok (.invokevirtual 151, 3)) (by decide +kernel) (by decide +kernel) (by decide +kernel) (by omega) rfl (by simp) (by decide +kernel) h
theorem x_53_55 : Ev d 53 55 (a0 :: a1 :: a2 :: .int x :: L) st μ Q = Ev d 53 56 (a0 :: a1 :: a2 :: .int x :: L) (.int x :: st) μ Q := e_iload_n (by decide +kernel : decode (bOf 53) 55 = .ok (.iload_n 3, 1)) rfl
theorem x_53_56 : Ev d 53 56 L st μ Q = Ev d 53 57 L (.int (iI 1) :: st) μ Q := e_iconst (by decide +kernel : decode (bOf 53) 56 = .ok (.iconst 1, 1))
theorem x_53_57 : Ev d 53 57 L (.int y :: .int x :: st) μ Q = if x = y then Ev d 53 60 L st μ Q else Ev d 53 68 L st μ Q := e_icmp_ne (by decide +kernel : decode (bOf 53) 57 = .ok (.if_icmp .ne 11, 3)) (by omega)
theorem x_53_60 : Ev d 53 60 (.ref r :: L) st μ Q = Ev d 53 61 (.ref r :: L) (.ref r :: st) μ Q := e_aload_n (by decide +kernel : decode (bOf 53) 60 = .ok (.aload_n 0, 1)) rfl
theorem x_53_61 (h : kd t r = 4) : Ev d 53 61 L (.ref r :: st) (t, V, A, P) Q = Ev d 53 64 L (V r 6 :: st) (t, V, A, P) Q := e_getf (by decide +kernel : decode (bOf 53) 61 = .ok (.getfield 37, 3)) (by decide +kernel) (by decide +kernel) h
theorem x_53_64 (h : kd t r = 1) : Ev d 53 64 L (.ref r :: st) (t, V, A, P) Q = Ev d 53 67 L (V r 6 :: st) (t, V, A, P) Q := e_getf (by decide +kernel : decode (bOf 53) 64 = .ok (.getfield 154, 3)) (by decide +kernel) (by decide +kernel) h
theorem x_53_67 : Ev d 53 67 L [.int x] μ Q = Q (some (.int x)) μ := e_iret (by decide +kernel : decode (bOf 53) 67 = .ok (.ireturn, 1)) (by decide +kernel)
theorem x_53_68 : Ev d 53 68 (a0 :: a1 :: a2 :: .int x :: L) st μ Q = Ev d 53 69 (a0 :: a1 :: a2 :: .int x :: L) (.int x :: st) μ Q := e_iload_n (by decide +kernel : decode (bOf 53) 68 = .ok (.iload_n 3, 1)) rfl
theorem x_53_69 : Ev d 53 69 L st μ Q = Ev d 53 70 L (.int (iI 2) :: st) μ Q := e_iconst (by decide +kernel : decode (bOf 53) 69 = .ok (.iconst 2, 1))
theorem x_53_70 : Ev d 53 70 L (.int y :: .int x :: st) μ Q = if x = y then Ev d 53 73 L st μ Q else Ev d 53 81 L st μ Q := e_icmp_ne (by decide +kernel : decode (bOf 53) 70 = .ok (.if_icmp .ne 11, 3)) (by omega)
theorem x_53_73 : Ev d 53 73 (.ref r :: L) st μ Q = Ev d 53 74 (.ref r :: L) (.ref r :: st) μ Q := e_aload_n (by decide +kernel : decode (bOf 53) 73 = .ok (.aload_n 0, 1)) rfl
theorem x_53_74 (h : kd t r = 4) : Ev d 53 74 L (.ref r :: st) (t, V, A, P) Q = Ev d 53 77 L (V r 6 :: st) (t, V, A, P) Q := e_getf (by decide +kernel : decode (bOf 53) 74 = .ok (.getfield 37, 3)) (by decide +kernel) (by decide +kernel) h
theorem x_53_77 (h : kd t r = 1) : Ev d 53 77 L (.ref r :: st) (t, V, A, P) Q = Ev d 53 80 L (V r 7 :: st) (t, V, A, P) Q := e_getf (by decide +kernel : decode (bOf 53) 77 = .ok (.getfield 157, 3)) (by decide +kernel) (by decide +kernel) h
theorem x_53_80 : Ev d 53 80 L [.int x] μ Q = Q (some (.int x)) μ := e_iret (by decide +kernel : decode (bOf 53) 80 = .ok (.ireturn, 1)) (by decide +kernel)
theorem x_53_81 : Ev d 53 81 (.ref r :: L) st μ Q = Ev d 53 82 (.ref r :: L) (.ref r :: st) μ Q := e_aload_n (by decide +kernel : decode (bOf 53) 81 = .ok (.aload_n 0, 1)) rfl
theorem x_53_82 (h : kd t r = 4) : Ev d 53 82 L (.ref r :: st) (t, V, A, P) Q = Ev d 53 85 L (V r 6 :: st) (t, V, A, P) Q := e_getf (by decide +kernel : decode (bOf 53) 82 = .ok (.getfield 37, 3)) (by decide +kernel) (by decide +kernel) h
theorem x_53_85 (h : kd t r = 1) : Ev d 53 85 L [.ref r] (t, V, A, P) Q = Call d 17 [.ref r] (t, V, A, P) (fun v μ1 => Ev d 53 88 L (v.toList ++ []) μ1 Q) := e_callV (a := []) (r := []) (by decide +kernel : decode (bOf 53) 85 = .ok (.invokevirtual 160, 3)) (by decide +kernel) (by decide +kernel) (by decide +kernel) (by omega) rfl (by simp) (by decide +kernel) h
theorem x_53_88 : Ev d 53 88 (a0 :: a1 :: a2 :: .int x :: L) st μ Q = Ev d 53 89 (a0 :: a1 :: a2 :: .int x :: L) (.int x :: st) μ Q := e_iload_n (by decide +kernel : decode (bOf 53) 88 = .ok (.iload_n 3, 1)) rfl
theorem x_53_89 : Ev d 53 89 L st μ Q = Ev d 53 90 L (.int (iI 3) :: st) μ Q := e_iconst (by decide +kernel : decode (bOf 53) 89 = .ok (.iconst 3, 1))
theorem x_53_90 : Ev d 53 90 L (.int y :: .int x :: st) μ Q = if x = y then Ev d 53 93 L st μ Q else Ev d 53 101 L st μ Q := e_icmp_ne (by decide +kernel : decode (bOf 53) 90 = .ok (.if_icmp .ne 11, 3)) (by omega)
theorem x_53_93 : Ev d 53 93 (.ref r :: L) st μ Q = Ev d 53 94 (.ref r :: L) (.ref r :: st) μ Q := e_aload_n (by decide +kernel : decode (bOf 53) 93 = .ok (.aload_n 0, 1)) rfl
theorem x_53_94 (h : kd t r = 4) : Ev d 53 94 L (.ref r :: st) (t, V, A, P) Q = Ev d 53 97 L (V r 6 :: st) (t, V, A, P) Q := e_getf (by decide +kernel : decode (bOf 53) 94 = .ok (.getfield 37, 3)) (by decide +kernel) (by decide +kernel) h
theorem x_53_97 (h : kd t r = 1) : Ev d 53 97 L (.ref r :: st) (t, V, A, P) Q = Ev d 53 100 L (V r 8 :: st) (t, V, A, P) Q := e_getf (by decide +kernel : decode (bOf 53) 97 = .ok (.getfield 163, 3)) (by decide +kernel) (by decide +kernel) h
theorem x_53_100 : Ev d 53 100 L [.int x] μ Q = Q (some (.int x)) μ := e_iret (by decide +kernel : decode (bOf 53) 100 = .ok (.ireturn, 1)) (by decide +kernel)
theorem x_53_101 : Ev d 53 101 (a0 :: a1 :: a2 :: .int x :: L) st μ Q = Ev d 53 102 (a0 :: a1 :: a2 :: .int x :: L) (.int x :: st) μ Q := e_iload_n (by decide +kernel : decode (bOf 53) 101 = .ok (.iload_n 3, 1)) rfl
theorem x_53_102 : Ev d 53 102 L st μ Q = Ev d 53 103 L (.int (iI 4) :: st) μ Q := e_iconst (by decide +kernel : decode (bOf 53) 102 = .ok (.iconst 4, 1))
theorem x_53_103 : Ev d 53 103 L (.int y :: .int x :: st) μ Q = if x = y then Ev d 53 106 L st μ Q else Ev d 53 116 L st μ Q := e_icmp_ne (by decide +kernel : decode (bOf 53) 103 = .ok (.if_icmp .ne 13, 3)) (by omega)
theorem x_53_106 : Ev d 53 106 (.ref r :: L) st μ Q = Ev d 53 107 (.ref r :: L) (.ref r :: st) μ Q := e_aload_n (by decide +kernel : decode (bOf 53) 106 = .ok (.aload_n 0, 1)) rfl
theorem x_53_107 (h : kd t r = 4) : Ev d 53 107 L (.ref r :: st) (t, V, A, P) Q = Ev d 53 110 L (V r 6 :: st) (t, V, A, P) Q := e_getf (by decide +kernel : decode (bOf 53) 107 = .ok (.getfield 37, 3)) (by decide +kernel) (by decide +kernel) h
theorem x_53_110 (h : kd t r = 1) : Ev d 53 110 L (.ref r :: st) (t, V, A, P) Q = Ev d 53 113 L (V r 9 :: st) (t, V, A, P) Q := e_getf (by decide +kernel : decode (bOf 53) 110 = .ok (.getfield 166, 3)) (by decide +kernel) (by decide +kernel) h
theorem x_53_113 : Ev d 53 113 L st μ Q = Ev d 53 123 L st μ Q := e_goto (by decide +kernel : decode (bOf 53) 113 = .ok (.goto 10, 3)) (by omega)
theorem x_53_116 : Ev d 53 116 (.ref r :: L) st μ Q = Ev d 53 117 (.ref r :: L) (.ref r :: st) μ Q := e_aload_n (by decide +kernel : decode (bOf 53) 116 = .ok (.aload_n 0, 1)) rfl
theorem x_53_117 (h : kd t r = 4) : Ev d 53 117 L (.ref r :: st) (t, V, A, P) Q = Ev d 53 120 L (V r 6 :: st) (t, V, A, P) Q := e_getf (by decide +kernel : decode (bOf 53) 117 = .ok (.getfield 37, 3)) (by decide +kernel) (by decide +kernel) h
theorem x_53_120 (h : kd t r = 1) : Ev d 53 120 L [.ref r] (t, V, A, P) Q = Call d 19 [.ref r] (t, V, A, P) (fun v μ1 => Ev d 53 123 L (v.toList ++ []) μ1 Q) := e_callV (a := []) (r := []) (by decide +kernel : decode (bOf 53) 120 = .ok (.invokevirtual 169, 3)) (by decide +kernel) (by decide +kernel) (by decide +kernel) (by omega) rfl (by simp) (by decide +kernel) h
theorem x_53_123 : Ev d 53 123 L [.int x] μ Q = Q (some (.int x)) μ := e_iret (by decide +kernel : decode (bOf 53) 123 = .ok (.ireturn, 1)) (by decide +kernel)
theorem c_54 : Call (d + 1) 54 [.ref r0, .int i1] μ Q = Ev d 54 0 [.ref r0, .int i1, .null, .null] [] μ Q := call_ev rfl rfl 
theorem x_54_0 : Ev d 54 0 (a0 :: .int x :: L) st μ Q = Ev d 54 1 (a0 :: .int x :: L) (.int x :: st) μ Q := e_iload_n (by decide +kernel : decode (bOf 54) 0 = .ok (.iload_n 1, 1)) rfl
theorem x_54_1 : Ev d 54 1 L st μ Q = Ev d 54 2 L (.int (iI (-1)) :: st) μ Q := e_iconst (by decide +kernel : decode (bOf 54) 1 = .ok (.iconst (-1), 1))
theorem x_54_2 : Ev d 54 2 L (.int y :: .int x :: st) μ Q = if x < y then Ev d 54 5 L st μ Q else Ev d 54 7 L st μ Q := e_icmp_ge (by decide +kernel : decode (bOf 54) 2 = .ok (.if_icmp .ge 5, 3)) (by omega)
theorem x_54_5 : Ev d 54 5 L st μ Q = Ev d 54 6 L (.int (iI (-1)) :: st) μ Q := e_iconst (by decide +kernel : decode (bOf 54) 5 = .ok (.iconst (-1), 1))
theorem x_54_6 : Ev d 54 6 L [.int x] μ Q = Q (some (.int x)) μ := e_iret (by decide +kernel : decode (bOf 54) 6 = .ok (.ireturn, 1)) (by decide +kernel)
theorem x_54_7 : Ev d 54 7 L st μ Q = Ev d 54 8 L (.int (iI 0) :: st) μ Q := e_iconst (by decide +kernel : decode (bOf 54) 7 = .ok (.iconst 0, 1))
theorem x_54_8 (h : a1.category = 1) : Ev d 54 8 (a0 :: a1 :: a2 :: L) (.int x :: st) μ Q = Ev d 54 9 (a0 :: a1 :: .int x :: L) st μ Q := e_istore_n (by decide +kernel : decode (bOf 54) 8 = .ok (.istore_n 2, 1)) (by show stOK _ 2 = true; simp [stOK, h])
theorem x_54_9 : Ev d 54 9 L st μ Q = Ev d 54 10 L (.int (iI 0) :: st) μ Q := e_iconst (by decide +kernel : decode (bOf 54) 9 = .ok (.iconst 0, 1))
theorem x_54_10 (h : a2.category = 1) : Ev d 54 10 (a0 :: a1 :: a2 :: a3 :: L) (.int x :: st) μ Q = Ev d 54 11 (a0 :: a1 :: a2 :: .int x :: L) st μ Q := e_istore_n (by decide +kernel : decode (bOf 54) 10 = .ok (.istore_n 3, 1)) (by show stOK _ 3 = true; simp [stOK, h])
theorem x_54_11 : Ev d 54 11 (a0 :: a1 :: a2 :: .int x :: L) st μ Q = Ev d 54 12 (a0 :: a1 :: a2 :: .int x :: L) (.int x :: st) μ Q := e_iload_n (by decide +kernel : decode (bOf 54) 11 = .ok (.iload_n 3, 1)) rfl
theorem x_54_12 : Ev d 54 12 L st μ Q = Ev d 54 14 L (.int (iI 12) :: st) μ Q := e_bipush (by decide +kernel : decode (bOf 54) 12 = .ok (.bipush 12, 2)) (by decide +kernel)
theorem x_54_14 : Ev d 54 14 L (.int y :: .int x :: st) μ Q = if x < y then Ev d 54 17 L st μ Q else Ev d 54 82 L st μ Q := e_icmp_ge (by decide +kernel : decode (bOf 54) 14 = .ok (.if_icmp .ge 68, 3)) (by omega)
theorem x_54_17 : Ev d 54 17 (.ref r :: L) st μ Q = Ev d 54 18 (.ref r :: L) (.ref r :: st) μ Q := e_aload_n (by decide +kernel : decode (bOf 54) 17 = .ok (.aload_n 0, 1)) rfl
theorem x_54_18 (h : kd t r = 4) : Ev d 54 18 L (.ref r :: st) (t, V, A, P) Q = Ev d 54 21 L (V r 6 :: st) (t, V, A, P) Q := e_getf (by decide +kernel : decode (bOf 54) 18 = .ok (.getfield 37, 3)) (by decide +kernel) (by decide +kernel) h
theorem x_54_21 : Ev d 54 21 (.ref r :: L) st μ Q = Ev d 54 22 (.ref r :: L) (.ref r :: st) μ Q := e_aload_n (by decide +kernel : decode (bOf 54) 21 = .ok (.aload_n 0, 1)) rfl
theorem x_54_22 (h : kd t r = 4) : Ev d 54 22 L (.ref r :: st) (t, V, A, P) Q = Ev d 54 25 L (V r 0 :: st) (t, V, A, P) Q := e_getf (by decide +kernel : decode (bOf 54) 22 = .ok (.getfield 12, 3)) (by decide +kernel) (by decide +kernel) h
theorem x_54_25 : Ev d 54 25 (a0 :: a1 :: a2 :: .int x :: L) st μ Q = Ev d 54 26 (a0 :: a1 :: a2 :: .int x :: L) (.int x :: st) μ Q := e_iload_n (by decide +kernel : decode (bOf 54) 25 = .ok (.iload_n 3, 1)) rfl
theorem x_54_26 : Ev d 54 26 L st μ Q = Ev d 54 27 L (.int (iI 2) :: st) μ Q := e_iconst (by decide +kernel : decode (bOf 54) 26 = .ok (.iconst 2, 1))
theorem x_54_27 (h : ¬ y = 0) : Ev d 54 27 L (.int y :: .int x :: st) μ Q = Ev d 54 28 L (.int (x / y) :: st) μ Q := e_idiv (by decide +kernel : decode (bOf 54) 27 = .ok (.idiv, 1)) h
theorem x_54_28 : Ev d 54 28 (a0 :: a1 :: a2 :: .int x :: L) st μ Q = Ev d 54 29 (a0 :: a1 :: a2 :: .int x :: L) (.int x :: st) μ Q := e_iload_n (by decide +kernel : decode (bOf 54) 28 = .ok (.iload_n 3, 1)) rfl
theorem x_54_29 : Ev d 54 29 L st μ Q = Ev d 54 30 L (.int (iI 2) :: st) μ Q := e_iconst (by decide +kernel : decode (bOf 54) 29 = .ok (.iconst 2, 1))
theorem x_54_30 (h : ¬ y = 0) : Ev d 54 30 L (.int y :: .int x :: st) μ Q = Ev d 54 31 L (.int (x - x / y * y) :: st) μ Q := e_irem (by decide +kernel : decode (bOf 54) 30 = .ok (.irem, 1)) h
theorem x_54_31 : Ev d 54 31 L [b0, s0, s1, s2] μ Q = Call d 73 [b0] μ (fun v μ1 => Ev d 54 34 L (v.toList ++ [s0, s1, s2]) μ1 Q) := e_callS (a := [b0]) (r := [s0, s1, s2]) (by decide +kernel : decode (bOf 54) 31 = .ok (.invokestatic 105, 3)) (by decide +kernel) (by decide +kernel) (by omega) rfl (by simp)
theorem x_54_34 (h : kd t r = 1) : Ev d 54 34 L [b2, b1, b0, .ref r] (t, V, A, P) Q = Call d 11 [.ref r, b0, b1, b2] (t, V, A, P) (fun v μ1 => Ev d 54 37 L (v.toList ++ []) μ1 Q) := e_callV (a := [b0, b1, b2]) (r := []) (by decide +kernel : decode (bOf 54) 34 = .ok (.invokevirtual 122, 3)) (by decide +kernel) (by decide +kernel) (by decide +kernel) (by omega) rfl (by simp) (by decide +kernel) h
theorem x_54_37 : Ev d 54 37 (.ref r :: L) st μ Q = Ev d 54 38 (.ref r :: L) (.ref r :: st) μ Q := e_aload_n (by decide +kernel : decode (bOf 54) 37 = .ok (.aload_n 0, 1)) rfl
theorem x_54_38 (h : kd t r = 4) : Ev d 54 38 L (.ref r :: st) (t, V, A, P) Q = Ev d 54 41 L (V r 6 :: st) (t, V, A, P) Q := e_getf (by decide +kernel : decode (bOf 54) 38 = .ok (.getfield 37, 3)) (by decide +kernel) (by decide +kernel) h
theorem x_54_41 (h : kd t r = 1) : Ev d 54 41 L [.ref r] (t, V, A, P) Q = Call d 16 [.ref r] (t, V, A, P) (fun v μ1 => Ev d 54 44 L (v.toList ++ []) μ1 Q) := e_callV (a := []) (r := []) (by decide +kernel : decode (bOf 54) 41 = .ok (.invokevirtual 151, 3)) (by decide +kernel) (by decide +kernel) (by decide +kernel) (by omega) rfl (by simp) (by decide +kernel) h
theorem x_54_44 : Ev d 54 44 (.ref r :: L) st μ Q = Ev d 54 45 (.ref r :: L) (.ref r :: st) μ Q := e_aload_n (by decide +kernel : decode (bOf 54) 44 = .ok (.aload_n 0, 1)) rfl
theorem x_54_45 (h : kd t r = 4) : Ev d 54 45 L (.ref r :: st) (t, V, A, P) Q = Ev d 54 48 L (V r 6 :: st) (t, V, A, P) Q := e_getf (by decide +kernel : decode (bOf 54) 45 = .ok (.getfield 37, 3)) (by decide +kernel) (by decide +kernel) h
theorem x_54_48 (h : kd t r = 1) : Ev d 54 48 L (.ref r :: st) (t, V, A, P) Q = Ev d 54 51 L (V r 5 :: st) (t, V, A, P) Q := e_getf (by decide +kernel : decode (bOf 54) 48 = .ok (.getfield 126, 3)) (by decide +kernel) (by decide +kernel) h
theorem x_54_51 : Ev d 54 51 L (.int x :: st) μ Q = if iI 0 < x then Ev d 54 54 L st μ Q else Ev d 54 76 L st μ Q := e_if_le (by decide +kernel : decode (bOf 54) 51 = .ok (.ifCond .le 25, 3)) (by omega)
theorem x_54_54 : Ev d 54 54 (.ref r :: L) st μ Q = Ev d 54 55 (.ref r :: L) (.ref r :: st) μ Q := e_aload_n (by decide +kernel : decode (bOf 54) 54 = .ok (.aload_n 0, 1)) rfl
theorem x_54_55 (h : kd t r = 4) : Ev d 54 55 L (.ref r :: st) (t, V, A, P) Q = Ev d 54 58 L (V r 6 :: st) (t, V, A, P) Q := e_getf (by decide +kernel : decode (bOf 54) 55 = .ok (.getfield 37, 3)) (by decide +kernel) (by decide +kernel) h
theorem x_54_58 (h : kd t r = 1) : Ev d 54 58 L (.ref r :: st) (t, V, A, P) Q = Ev d 54 61 L (V r 6 :: st) (t, V, A, P) Q := e_getf (by decide +kernel : decode (bOf 54) 58 = .ok (.getfield 154, 3)) (by decide +kernel) (by decide +kernel) h
theorem x_54_61 : Ev d 54 61 L st μ Q = Ev d 54 63 L (.int (iI (-9)) :: st) μ Q := e_bipush (by decide +kernel : decode (bOf 54) 61 = .ok (.bipush (-9), 2)) (by decide +kernel)
theorem x_54_63 : Ev d 54 63 L (.int y :: .int x :: st) μ Q = if x = y then Ev d 54 66 L st μ Q else Ev d 54 76 L st μ Q := e_icmp_ne (by decide +kernel : decode (bOf 54) 63 = .ok (.if_icmp .ne 13, 3)) (by omega)
theorem x_54_66 : Ev d 54 66 (a0 :: a1 :: .int x :: L) st μ Q = Ev d 54 67 (a0 :: a1 :: .int x :: L) (.int x :: st) μ Q := e_iload_n (by decide +kernel : decode (bOf 54) 66 = .ok (.iload_n 2, 1)) rfl
theorem x_54_67 : Ev d 54 67 (a0 :: .int x :: L) st μ Q = Ev d 54 68 (a0 :: .int x :: L) (.int x :: st) μ Q := e_iload_n (by decide +kernel : decode (bOf 54) 67 = .ok (.iload_n 1, 1)) rfl
theorem x_54_68 : Ev d 54 68 L (.int y :: .int x :: st) μ Q = if x = y then Ev d 54 71 L st μ Q else Ev d 54 73 L st μ Q := e_icmp_ne (by decide +kernel : decode (bOf 54) 68 = .ok (.if_icmp .ne 5, 3)) (by omega)
theorem x_54_71 : Ev d 54 71 (a0 :: a1 :: a2 :: .int x :: L) st μ Q = Ev d 54 72 (a0 :: a1 :: a2 :: .int x :: L) (.int x :: st) μ Q := e_iload_n (by decide +kernel : decode (bOf 54) 71 = .ok (.iload_n 3, 1)) rfl
theorem x_54_72 : Ev d 54 72 L [.int x] μ Q = Q (some (.int x)) μ := e_iret (by decide +kernel : decode (bOf 54) 72 = .ok (.ireturn, 1)) (by decide +kernel)
theorem x_54_73 (h : a1.category = 1) : Ev d 54 73 (a0 :: a1 :: .int x :: L) st μ Q = Ev d 54 76 (a0 :: a1 :: .int (x + (iI 1)) :: L) st μ Q := e_iinc (by decide +kernel : decode (bOf 54) 73 = .ok (.iinc 2 1, 3)) rfl (by simp [stOK, h])
theorem x_54_76 (h : a2.category = 1) : Ev d 54 76 (a0 :: a1 :: a2 :: .int x :: L) st μ Q = Ev d 54 79 (a0 :: a1 :: a2 :: .int (x + (iI 1)) :: L) st μ Q := e_iinc (by decide +kernel : decode (bOf 54) 76 = .ok (.iinc 3 1, 3)) rfl (by simp [stOK, h])
theorem x_54_79 : Ev d 54 79 L st μ Q = Ev d 54 11 L st μ Q := e_goto (by decide +kernel : decode (bOf 54) 79 = .ok (.goto (-68), 3)) (by omega)
theorem x_54_82 : Ev d 54 82 (a0 :: .int x :: L) st μ Q = Ev d 54 83 (a0 :: .int x :: L) (.int x :: st) μ Q := e_iload_n (by decide +kernel : decode (bOf 54) 82 = .ok (.iload_n 1, 1)) rfl
theorem x_54_83 : Ev d 54 83 L st μ Q = Ev d 54 84 L (.int (iI (-1)) :: st) μ Q := e_iconst (by decide +kernel : decode (bOf 54) 83 = .ok (.iconst (-1), 1))
theorem x_54_84 : Ev d 54 84 L (.int y :: .int x :: st) μ Q = if x = y then Ev d 54 87 L st μ Q else Ev d 54 91 L st μ Q := e_icmp_ne (by decide +kernel : decode (bOf 54) 84 = .ok (.if_icmp .ne 7, 3)) (by omega)
theorem x_54_87 : Ev d 54 87 (a0 :: a1 :: .int x :: L) st μ Q = Ev d 54 88 (a0 :: a1 :: .int x :: L) (.int x :: st) μ Q := e_iload_n (by decide +kernel : decode (bOf 54) 87 = .ok (.iload_n 2, 1)) rfl
theorem x_54_88 : Ev d 54 88 L st μ Q = Ev d 54 93 L st μ Q := e_goto (by decide +kernel : decode (bOf 54) 88 = .ok (.goto 5, 3)) (by omega)
theorem x_54_91 : Ev d 54 91 L st μ Q = Ev d 54 93 L (.int (iI (-9)) :: st) μ Q := e_bipush (by decide +kernel : decode (bOf 54) 91 = .ok (.bipush (-9), 2)) (by decide +kernel)
theorem x_54_93 : Ev d 54 93 L [.int x] μ Q = Q (some (.int x)) μ := e_iret (by decide +kernel : decode (bOf 54) 93 = .ok (.ireturn, 1)) (by decide +kernel)
theorem c_55 : Call (d + 1) 55 [.ref r0, .int i1, .int i2] μ Q = Ev d 55 0 [.ref r0, .int i1, .int i2, .null, .null, .null, .null, .null] [] μ Q := call_ev rfl rfl 
theorem x_55_0 : Ev d 55 0 (a0 :: .int x :: L) st μ Q = Ev d 55 1 (a0 :: .int x :: L) (.int x :: st) μ Q := e_iload_n (by decide +kernel : decode (bOf 55) 0 = .ok (.iload_n 1, 1)) rfl
theorem x_55_1 : Ev d 55 1 L st μ Q = Ev d 55 4 L (.int (iI (-300)) :: st) μ Q := e_sipush (by decide +kernel : decode (bOf 55) 1 = .ok (.sipush (-300), 3)) (by decide +kernel)
theorem x_55_4 : Ev d 55 4 L (.int y :: .int x :: st) μ Q = if x < y then Ev d 55 23 L st μ Q else Ev d 55 7 L st μ Q := e_icmp_lt (by decide +kernel : decode (bOf 55) 4 = .ok (.if_icmp .lt 19, 3)) (by omega)
theorem x_55_7 : Ev d 55 7 (a0 :: .int x :: L) st μ Q = Ev d 55 8 (a0 :: .int x :: L) (.int x :: st) μ Q := e_iload_n (by decide +kernel : decode (bOf 55) 7 = .ok (.iload_n 1, 1)) rfl
theorem x_55_8 : Ev d 55 8 L st μ Q = Ev d 55 11 L (.int (iI 300) :: st) μ Q := e_sipush (by decide +kernel : decode (bOf 55) 8 = .ok (.sipush 300, 3)) (by decide +kernel)
theorem x_55_11 : Ev d 55 11 L (.int y :: .int x :: st) μ Q = if y < x then Ev d 55 23 L st μ Q else Ev d 55 14 L st μ Q := e_icmp_gt (by decide +kernel : decode (bOf 55) 11 = .ok (.if_icmp .gt 12, 3)) (by omega)
theorem x_55_14 : Ev d 55 14 (a0 :: a1 :: .int x :: L) st μ Q = Ev d 55 15 (a0 :: a1 :: .int x :: L) (.int x :: st) μ Q := e_iload_n (by decide +kernel : decode (bOf 55) 14 = .ok (.iload_n 2, 1)) rfl
theorem x_55_15 : Ev d 55 15 L (.int x :: st) μ Q = if x < iI 0 then Ev d 55 23 L st μ Q else Ev d 55 18 L st μ Q := e_if_lt (by decide +kernel : decode (bOf 55) 15 = .ok (.ifCond .lt 8, 3)) (by omega)
theorem x_55_18 : Ev d 55 18 (a0 :: a1 :: .int x :: L) st μ Q = Ev d 55 19 (a0 :: a1 :: .int x :: L) (.int x :: st) μ Q := e_iload_n (by decide +kernel : decode (bOf 55) 18 = .ok (.iload_n 2, 1)) rfl
theorem x_55_19 : Ev d 55 19 L st μ Q = Ev d 55 20 L (.int (iI 2) :: st) μ Q := e_iconst (by decide +kernel : decode (bOf 55) 19 = .ok (.iconst 2, 1))
theorem x_55_20 : Ev d 55 20 L (.int y :: .int x :: st) μ Q = if y < x then Ev d 55 23 L st μ Q else Ev d 55 26 L st μ Q := e_icmp_le (by decide +kernel : decode (bOf 55) 20 = .ok (.if_icmp .le 6, 3)) (by omega)
theorem x_55_23 : Ev d 55 23 L st μ Q = Ev d 55 25 L (.int (iI (-1000000)) :: st) μ Q := e_ldc (by decide +kernel : decode (bOf 55) 23 = .ok (.ldc 150, 2)) (by decide +kernel)
theorem x_55_25 : Ev d 55 25 L [.int x] μ Q = Q (some (.int x)) μ := e_iret (by decide +kernel : decode (bOf 55) 25 = .ok (.ireturn, 1)) (by decide +kernel)
theorem x_55_26 : Ev d 55 26 L st μ Q = Ev d 55 27 L (.int (iI 0) :: st) μ Q := e_iconst (by decide +kernel : decode (bOf 55) 26 = .ok (.iconst 0, 1))
theorem x_55_27 (h : a2.category = 1) : Ev d 55 27 (a0 :: a1 :: a2 :: a3 :: L) (.int x :: st) μ Q = Ev d 55 28 (a0 :: a1 :: a2 :: .int x :: L) st μ Q := e_istore_n (by decide +kernel : decode (bOf 55) 27 = .ok (.istore_n 3, 1)) (by show stOK _ 3 = true; simp [stOK, h])
theorem x_55_28 : Ev d 55 28 L st μ Q = Ev d 55 30 L (.int (iI (-2000000)) :: st) μ Q := e_ldc (by decide +kernel : decode (bOf 55) 28 = .ok (.ldc 172, 2)) (by decide +kernel)
theorem x_55_30 (h : a3.category = 1) : Ev d 55 30 (a0 :: a1 :: a2 :: a3 :: a4 :: L) (.int x :: st) μ Q = Ev d 55 32 (a0 :: a1 :: a2 :: a3 :: .int x :: L) st μ Q := e_istore (by decide +kernel : decode (bOf 55) 30 = .ok (.istore 4, 2)) (by show stOK _ 4 = true; simp [stOK, h])
theorem x_55_32 : Ev d 55 32 L st μ Q = Ev d 55 34 L (.int (iI (-2000000)) :: st) μ Q := e_ldc (by decide +kernel : decode (bOf 55) 32 = .ok (.ldc 172, 2)) (by decide +kernel)
theorem x_55_34 (h : a4.category = 1) : Ev d 55 34 (a0 :: a1 :: a2 :: a3 :: a4 :: a5 :: L) (.int x :: st) μ Q = Ev d 55 36 (a0 :: a1 :: a2 :: a3 :: a4 :: .int x :: L) st μ Q := e_istore (by decide +kernel : decode (bOf 55) 34 = .ok (.istore 5, 2)) (by show stOK _ 5 = true; simp [stOK, h])
theorem x_55_36 : Ev d 55 36 (.ref r :: L) st μ Q = Ev d 55 37 (.ref r :: L) (.ref r :: st) μ Q := e_aload_n (by decide +kernel : decode (bOf 55) 36 = .ok (.aload_n 0, 1)) rfl
theorem x_55_37 (h : kd t r = 4) : Ev d 55 37 L (.ref r :: st) (t, V, A, P) Q = Ev d 55 40 L (V r 8 :: st) (t, V, A, P) Q := e_getf (by decide +kernel : decode (bOf 55) 37 = .ok (.getfield 51, 3)) (by decide +kernel) (by decide +kernel) h
theorem x_55_40 : Ev d 55 40 L st μ Q = Ev d 55 41 L (.int (iI (-1)) :: st) μ Q := e_iconst (by decide +kernel : decode (bOf 55) 40 = .ok (.iconst (-1), 1))
theorem x_55_41 (h : kd t r = 2) : Ev d 55 41 L [b0, .ref r] (t, V, A, P) Q = Call d 21 [.ref r, b0] (t, V, A, P) (fun v μ1 => Ev d 55 44 L (v.toList ++ []) μ1 Q) := e_callV (a := [b0]) (r := []) (by decide +kernel : decode (bOf 55) 41 = .ok (.invokevirtual 173, 3)) (by decide +kernel) (by decide +kernel) (by decide +kernel) (by omega) rfl (by simp) (by decide +kernel) h
theorem x_55_44 : Ev d 55 44 L st μ Q = Ev d 55 45 L (.int (iI 0) :: st) μ Q := e_iconst (by decide +kernel : decode (bOf 55) 44 = .ok (.iconst 0, 1))
theorem x_55_45 (h : a5.category = 1) : Ev d 55 45 (a0 :: a1 :: a2 :: a3 :: a4 :: a5 :: a6 :: L) (.int x :: st) μ Q = Ev d 55 47 (a0 :: a1 :: a2 :: a3 :: a4 :: a5 :: .int x :: L) st μ Q := e_istore (by decide +kernel : decode (bOf 55) 45 = .ok (.istore 6, 2)) (by show stOK _ 6 = true; simp [stOK, h])
theorem x_55_47 : Ev d 55 47 (a0 :: a1 :: a2 :: a3 :: a4 :: a5 :: .int x :: L) st μ Q = Ev d 55 49 (a0 :: a1 :: a2 :: a3 :: a4 :: a5 :: .int x :: L) (.int x :: st) μ Q := e_iload (by decide +kernel : decode (bOf 55) 47 = .ok (.iload 6, 2)) rfl
theorem x_55_49 : Ev d 55 49 (.ref r :: L) st μ Q = Ev d 55 50 (.ref r :: L) (.ref r :: st) μ Q := e_aload_n (by decide +kernel : decode (bOf 55) 49 = .ok (.aload_n 0, 1)) rfl
theorem x_55_50 (h : kd t r = 4) : Ev d 55 50 L (.ref r :: st) (t, V, A, P) Q = Ev d 55 53 L (V r 0 :: st) (t, V, A, P) Q := e_getf (by decide +kernel : decode (bOf 55) 50 = .ok (.getfield 12, 3)) (by decide +kernel) (by decide +kernel) h
theorem x_55_53 (h : kd t r = 3) : Ev d 55 53 L [.ref r, s0] (t, V, A, P) Q = Call d 32 [.ref r] (t, V, A, P) (fun v μ1 => Ev d 55 56 L (v.toList ++ [s0]) μ1 Q) := e_callV (a := []) (r := [s0]) (by decide +kernel : decode (bOf 55) 53 = .ok (.invokevirtual 176, 3)) (by decide +kernel) (by decide +kernel) (by decide +kernel) (by omega) rfl (by simp) (by decide +kernel) h
theorem x_55_56 : Ev d 55 56 L (.int y :: .int x :: st) μ Q = if x < y then Ev d 55 59 L st μ Q else Ev d 55 153 L st μ Q := e_icmp_ge (by decide +kernel : decode (bOf 55) 56 = .ok (.if_icmp .ge 97, 3)) (by omega)
theorem x_55_59 : Ev d 55 59 (.ref r :: L) st μ Q = Ev d 55 60 (.ref r :: L) (.ref r :: st) μ Q := e_aload_n (by decide +kernel : decode (bOf 55) 59 = .ok (.aload_n 0, 1)) rfl
theorem x_55_60 (h : kd t r = 4) : Ev d 55 60 L (.ref r :: st) (t, V, A, P) Q = Ev d 55 63 L (V r 8 :: st) (t, V, A, P) Q := e_getf (by decide +kernel : decode (bOf 55) 60 = .ok (.getfield 51, 3)) (by decide +kernel) (by decide +kernel) h
theorem x_55_63 : Ev d 55 63 (.ref r :: L) st μ Q = Ev d 55 64 (.ref r :: L) (.ref r :: st) μ Q := e_aload_n (by decide +kernel : decode (bOf 55) 63 = .ok (.aload_n 0, 1)) rfl
theorem x_55_64 (h : kd t r = 4) : Ev d 55 64 L (.ref r :: st) (t, V, A, P) Q = Ev d 55 67 L (V r 0 :: st) (t, V, A, P) Q := e_getf (by decide +kernel : decode (bOf 55) 64 = .ok (.getfield 12, 3)) (by decide +kernel) (by decide +kernel) h
theorem x_55_67 : Ev d 55 67 (a0 :: a1 :: a2 :: a3 :: a4 :: a5 :: .int x :: L) st μ Q = Ev d 55 69 (a0 :: a1 :: a2 :: a3 :: a4 :: a5 :: .int x :: L) (.int x :: st) μ Q := e_iload (by decide +kernel : decode (bOf 55) 67 = .ok (.iload 6, 2)) rfl
theorem x_55_69 (h : kd t r = 3) : Ev d 55 69 L [b0, .ref r, s0] (t, V, A, P) Q = Call d 34 [.ref r, b0] (t, V, A, P) (fun v μ1 => Ev d 55 72 L (v.toList ++ [s0]) μ1 Q) := e_callV (a := [b0]) (r := [s0]) (by decide +kernel : decode (bOf 55) 69 = .ok (.invokevirtual 87, 3)) (by decide +kernel) (by decide +kernel) (by decide +kernel) (by omega) rfl (by simp) (by decide +kernel) h
theorem x_55_72 (h : kd t r = 2) : Ev d 55 72 L [b0, .ref r] (t, V, A, P) Q = Call d 23 [.ref r, b0] (t, V, A, P) (fun v μ1 => Ev d 55 75 L (v.toList ++ []) μ1 Q) := e_callV (a := [b0]) (r := []) (by decide +kernel : decode (bOf 55) 72 = .ok (.invokevirtual 179, 3)) (by decide +kernel) (by decide +kernel) (by decide +kernel) (by omega) rfl (by simp) (by decide +kernel) h
theorem x_55_75 : Ev d 55 75 (.ref r :: L) st μ Q = Ev d 55 76 (.ref r :: L) (.ref r :: st) μ Q := e_aload_n (by decide +kernel : decode (bOf 55) 75 = .ok (.aload_n 0, 1)) rfl
theorem x_55_76 (h : kd t r = 4) : Ev d 55 76 L (.ref r :: st) (t, V, A, P) Q = Ev d 55 79 L (V r 8 :: st) (t, V, A, P) Q := e_getf (by decide +kernel : decode (bOf 55) 76 = .ok (.getfield 51, 3)) (by decide +kernel) (by decide +kernel) h
theorem x_55_79 (h : kd t r = 2) : Ev d 55 79 L (.ref r :: st) (t, V, A, P) Q = Ev d 55 82 L (V r 1 :: st) (t, V, A, P) Q := e_getf (by decide +kernel : decode (bOf 55) 79 = .ok (.getfield 182, 3)) (by decide +kernel) (by decide +kernel) h
theorem x_55_82 (h : a6.category = 1) : Ev d 55 82 (a0 :: a1 :: a2 :: a3 :: a4 :: a5 :: a6 :: a7 :: L) (.int x :: st) μ Q = Ev d 55 84 (a0 :: a1 :: a2 :: a3 :: a4 :: a5 :: a6 :: .int x :: L) st μ Q := e_istore (by decide +kernel : decode (bOf 55) 82 = .ok (.istore 7, 2)) (by show stOK _ 7 = true; simp [stOK, h])
theorem x_55_84 : Ev d 55 84 (a0 :: a1 :: a2 :: a3 :: a4 :: a5 :: a6 :: .int x :: L) st μ Q = Ev d 55 86 (a0 :: a1 :: a2 :: a3 :: a4 :: a5 :: a6 :: .int x :: L) (.int x :: st) μ Q := e_iload (by decide +kernel : decode (bOf 55) 84 = .ok (.iload 7, 2)) rfl
theorem x_55_86 : Ev d 55 86 (a0 :: .int x :: L) st μ Q = Ev d 55 87 (a0 :: .int x :: L) (.int x :: st) μ Q := e_iload_n (by decide +kernel : decode (bOf 55) 86 = .ok (.iload_n 1, 1)) rfl
theorem x_55_87 : Ev d 55 87 L (.int y :: .int x :: st) μ Q = if x = y then Ev d 55 90 L st μ Q else Ev d 55 96 L st μ Q := e_icmp_ne (by decide +kernel : decode (bOf 55) 87 = .ok (.if_icmp .ne 9, 3)) (by omega)
theorem x_55_90 (h : a2.category = 1) : Ev d 55 90 (a0 :: a1 :: a2 :: .int x :: L) st μ Q = Ev d 55 93 (a0 :: a1 :: a2 :: .int (x + (iI 1)) :: L) st μ Q := e_iinc (by decide +kernel : decode (bOf 55) 90 = .ok (.iinc 3 1, 3)) rfl (by simp [stOK, h])
theorem x_55_93 : Ev d 55 93 L st μ Q = Ev d 55 147 L st μ Q := e_goto (by decide +kernel : decode (bOf 55) 93 = .ok (.goto 54, 3)) (by omega)
theorem x_55_96 : Ev d 55 96 (a0 :: a1 :: a2 :: a3 :: a4 :: a5 :: a6 :: .int x :: L) st μ Q = Ev d 55 98 (a0 :: a1 :: a2 :: a3 :: a4 :: a5 :: a6 :: .int x :: L) (.int x :: st) μ Q := e_iload (by decide +kernel : decode (bOf 55) 96 = .ok (.iload 7, 2)) rfl
theorem x_55_98 : Ev d 55 98 (a0 :: .int x :: L) st μ Q = Ev d 55 99 (a0 :: .int x :: L) (.int x :: st) μ Q := e_iload_n (by decide +kernel : decode (bOf 55) 98 = .ok (.iload_n 1, 1)) rfl
theorem x_55_99 : Ev d 55 99 L (.int y :: .int x :: st) μ Q = if y < x then Ev d 55 102 L st μ Q else Ev d 55 123 L st μ Q := e_icmp_le (by decide +kernel : decode (bOf 55) 99 = .ok (.if_icmp .le 24, 3)) (by omega)
theorem x_55_102 : Ev d 55 102 (a0 :: a1 :: a2 :: a3 :: .int x :: L) st μ Q = Ev d 55 104 (a0 :: a1 :: a2 :: a3 :: .int x :: L) (.int x :: st) μ Q := e_iload (by decide +kernel : decode (bOf 55) 102 = .ok (.iload 4, 2)) rfl
theorem x_55_104 : Ev d 55 104 L st μ Q = Ev d 55 106 L (.int (iI (-2000000)) :: st) μ Q := e_ldc (by decide +kernel : decode (bOf 55) 104 = .ok (.ldc 172, 2)) (by decide +kernel)
theorem x_55_106 : Ev d 55 106 L (.int y :: .int x :: st) μ Q = if x = y then Ev d 55 116 L st μ Q else Ev d 55 109 L st μ Q := e_icmp_eq (by decide +kernel : decode (bOf 55) 106 = .ok (.if_icmp .eq 10, 3)) (by omega)
theorem x_55_109 : Ev d 55 109 (a0 :: a1 :: a2 :: a3 :: a4 :: a5 :: a6 :: .int x :: L) st μ Q = Ev d 55 111 (a0 :: a1 :: a2 :: a3 :: a4 :: a5 :: a6 :: .int x :: L) (.int x :: st) μ Q := e_iload (by decide +kernel : decode (bOf 55) 109 = .ok (.iload 7, 2)) rfl
theorem x_55_111 : Ev d 55 111 (a0 :: a1 :: a2 :: a3 :: .int x :: L) st μ Q = Ev d 55 113 (a0 :: a1 :: a2 :: a3 :: .int x :: L) (.int x :: st) μ Q := e_iload (by decide +kernel : decode (bOf 55) 111 = .ok (.iload 4, 2)) rfl
theorem x_55_113 : Ev d 55 113 L (.int y :: .int x :: st) μ Q = if x < y then Ev d 55 116 L st μ Q else Ev d 55 123 L st μ Q := e_icmp_ge (by decide +kernel : decode (bOf 55) 113 = .ok (.if_icmp .ge 10, 3)) (by omega)
theorem x_55_116 : Ev d 55 116 (a0 :: a1 :: a2 :: a3 :: a4 :: a5 :: a6 :: .int x :: L) st μ Q = Ev d 55 118 (a0 :: a1 :: a2 :: a3 :: a4 :: a5 :: a6 :: .int x :: L) (.int x :: st) μ Q := e_iload (by decide +kernel : decode (bOf 55) 116 = .ok (.iload 7, 2)) rfl
theorem x_55_118 (h : a3.category = 1) : Ev d 55 118 (a0 :: a1 :: a2 :: a3 :: a4 :: L) (.int x :: st) μ Q = Ev d 55 120 (a0 :: a1 :: a2 :: a3 :: .int x :: L) st μ Q := e_istore (by decide +kernel : decode (bOf 55) 118 = .ok (.istore 4, 2)) (by show stOK _ 4 = true; simp [stOK, h])
theorem x_55_120 : Ev d 55 120 L st μ Q = Ev d 55 147 L st μ Q := e_goto (by decide +kernel : decode (bOf 55) 120 = .ok (.goto 27, 3)) (by omega)
theorem x_55_123 : Ev d 55 123 (a0 :: a1 :: a2 :: a3 :: a4 :: a5 :: a6 :: .int x :: L) st μ Q = Ev d 55 125 (a0 :: a1 :: a2 :: a3 :: a4 :: a5 :: a6 :: .int x :: L) (.int x :: st) μ Q := e_iload (by decide +kernel : decode (bOf 55) 123 = .ok (.iload 7, 2)) rfl
theorem x_55_125 : Ev d 55 125 (a0 :: .int x :: L) st μ Q = Ev d 55 126 (a0 :: .int x :: L) (.int x :: st) μ Q := e_iload_n (by decide +kernel : decode (bOf 55) 125 = .ok (.iload_n 1, 1)) rfl
theorem x_55_126 : Ev d 55 126 L (.int y :: .int x :: st) μ Q = if x < y then Ev d 55 129 L st μ Q else Ev d 55 147 L st μ Q := e_icmp_ge (by decide +kernel : decode (bOf 55) 126 = .ok (.if_icmp .ge 21, 3)) (by omega)
theorem x_55_129 : Ev d 55 129 (a0 :: a1 :: a2 :: a3 :: a4 :: .int x :: L) st μ Q = Ev d 55 131 (a0 :: a1 :: a2 :: a3 :: a4 :: .int x :: L) (.int x :: st) μ Q := e_iload (by decide +kernel : decode (bOf 55) 129 = .ok (.iload 5, 2)) rfl
theorem x_55_131 : Ev d 55 131 L st μ Q = Ev d 55 133 L (.int (iI (-2000000)) :: st) μ Q := e_ldc (by decide +kernel : decode (bOf 55) 131 = .ok (.ldc 172, 2)) (by decide +kernel)
theorem x_55_133 : Ev d 55 133 L (.int y :: .int x :: st) μ Q = if x = y then Ev d 55 143 L st μ Q else Ev d 55 136 L st μ Q := e_icmp_eq (by decide +kernel : decode (bOf 55) 133 = .ok (.if_icmp .eq 10, 3)) (by omega)
theorem x_55_136 : Ev d 55 136 (a0 :: a1 :: a2 :: a3 :: a4 :: a5 :: a6 :: .int x :: L) st μ Q = Ev d 55 138 (a0 :: a1 :: a2 :: a3 :: a4 :: a5 :: a6 :: .int x :: L) (.int x :: st) μ Q := e_iload (by decide +kernel : decode (bOf 55) 136 = .ok (.iload 7, 2)) rfl
theorem x_55_138 : Ev d 55 138 (a0 :: a1 :: a2 :: a3 :: a4 :: .int x :: L) st μ Q = Ev d 55 140 (a0 :: a1 :: a2 :: a3 :: a4 :: .int x :: L) (.int x :: st) μ Q := e_iload (by decide +kernel : decode (bOf 55) 138 = .ok (.iload 5, 2)) rfl
theorem x_55_140 : Ev d 55 140 L (.int y :: .int x :: st) μ Q = if y < x then Ev d 55 143 L st μ Q else Ev d 55 147 L st μ Q := e_icmp_le (by decide +kernel : decode (bOf 55) 140 = .ok (.if_icmp .le 7, 3)) (by omega)
theorem x_55_143 : Ev d 55 143 (a0 :: a1 :: a2 :: a3 :: a4 :: a5 :: a6 :: .int x :: L) st μ Q = Ev d 55 145 (a0 :: a1 :: a2 :: a3 :: a4 :: a5 :: a6 :: .int x :: L) (.int x :: st) μ Q := e_iload (by decide +kernel : decode (bOf 55) 143 = .ok (.iload 7, 2)) rfl
theorem x_55_145 (h : a4.category = 1) : Ev d 55 145 (a0 :: a1 :: a2 :: a3 :: a4 :: a5 :: L) (.int x :: st) μ Q = Ev d 55 147 (a0 :: a1 :: a2 :: a3 :: a4 :: .int x :: L) st μ Q := e_istore (by decide +kernel : decode (bOf 55) 145 = .ok (.istore 5, 2)) (by show stOK _ 5 = true; simp [stOK, h])
theorem x_55_147 (h : a5.category = 1) : Ev d 55 147 (a0 :: a1 :: a2 :: a3 :: a4 :: a5 :: .int x :: L) st μ Q = Ev d 55 150 (a0 :: a1 :: a2 :: a3 :: a4 :: a5 :: .int (x + (iI 1)) :: L) st μ Q := e_iinc (by decide +kernel : decode (bOf 55) 147 = .ok (.iinc 6 1, 3)) rfl (by simp [stOK, h])
theorem x_55_150 : Ev d 55 150 L st μ Q = Ev d 55 47 L st μ Q := e_goto (by decide +kernel : decode (bOf 55) 150 = .ok (.goto (-103), 3)) (by omega)
theorem x_55_153 : Ev d 55 153 (a0 :: a1 :: .int x :: L) st μ Q = Ev d 55 154 (a0 :: a1 :: .int x :: L) (.int x :: st) μ Q := e_iload_n (by decide +kernel : decode (bOf 55) 153 = .ok (.iload_n 2, 1)) rfl
theorem x_55_154 : Ev d 55 154 L (.int x :: st) μ Q = if x = iI 0 then Ev d 55 157 L st μ Q else Ev d 55 159 L st μ Q := e_if_ne (by decide +kernel : decode (bOf 55) 154 = .ok (.ifCond .ne 5, 3)) (by omega)
theorem x_55_157 : Ev d 55 157 (a0 :: a1 :: a2 :: .int x :: L) st μ Q = Ev d 55 158 (a0 :: a1 :: a2 :: .int x :: L) (.int x :: st) μ Q := e_iload_n (by decide +kernel : decode (bOf 55) 157 = .ok (.iload_n 3, 1)) rfl
theorem x_55_158 : Ev d 55 158 L [.int x] μ Q = Q (some (.int x)) μ := e_iret (by decide +kernel : decode (bOf 55) 158 = .ok (.ireturn, 1)) (by decide +kernel)
theorem x_55_159 : Ev d 55 159 (a0 :: a1 :: .int x :: L) st μ Q = Ev d 55 160 (a0 :: a1 :: .int x :: L) (.int x :: st) μ Q := e_iload_n (by decide +kernel : decode (bOf 55) 159 = .ok (.iload_n 2, 1)) rfl
theorem x_55_160 : Ev d 55 160 L st μ Q = Ev d 55 161 L (.int (iI 1) :: st) μ Q := e_iconst (by decide +kernel : decode (bOf 55) 160 = .ok (.iconst 1, 1))
theorem x_55_161 : Ev d 55 161 L (.int y :: .int x :: st) μ Q = if x = y then Ev d 55 164 L st μ Q else Ev d 55 169 L st μ Q := e_icmp_ne (by decide +kernel : decode (bOf 55) 161 = .ok (.if_icmp .ne 8, 3)) (by omega)
theorem x_55_164 : Ev d 55 164 (a0 :: a1 :: a2 :: a3 :: .int x :: L) st μ Q = Ev d 55 166 (a0 :: a1 :: a2 :: a3 :: .int x :: L) (.int x :: st) μ Q := e_iload (by decide +kernel : decode (bOf 55) 164 = .ok (.iload 4, 2)) rfl
theorem x_55_166 : Ev d 55 166 L st μ Q = Ev d 55 171 L st μ Q := e_goto (by decide +kernel : decode (bOf 55) 166 = .ok (.goto 5, 3)) (by omega)
theorem x_55_169 : Ev d 55 169 (a0 :: a1 :: a2 :: a3 :: a4 :: .int x :: L) st μ Q = Ev d 55 171 (a0 :: a1 :: a2 :: a3 :: a4 :: .int x :: L) (.int x :: st) μ Q := e_iload (by decide +kernel : decode (bOf 55) 169 = .ok (.iload 5, 2)) rfl
theorem x_55_171 : Ev d 55 171 L [.int x] μ Q = Q (some (.int x)) μ := e_iret (by decide +kernel : decode (bOf 55) 171 = .ok (.ireturn, 1)) (by decide +kernel)
theorem c_56 : Call (d + 1) 56 [.ref r0, .int i1, .int i2] μ Q = Ev d 56 0 [.ref r0, .int i1, .int i2] [] μ Q := call_ev rfl rfl 
theorem x_56_0 : Ev d 56 0 (a0 :: .int x :: L) st μ Q = Ev d 56 1 (a0 :: .int x :: L) (.int x :: st) μ Q := e_iload_n (by decide +kernel : decode (bOf 56) 0 = .ok (.iload_n 1, 1)) rfl
theorem x_56_1 : Ev d 56 1 L st μ Q = Ev d 56 2 L (.int (iI 1) :: st) μ Q := e_iconst (by decide +kernel : decode (bOf 56) 1 = .ok (.iconst 1, 1))
theorem x_56_2 : Ev d 56 2 L (.int y :: .int x :: st) μ Q = if x < y then Ev d 56 16 L st μ Q else Ev d 56 5 L st μ Q := e_icmp_lt (by decide +kernel : decode (bOf 56) 2 = .ok (.if_icmp .lt 14, 3)) (by omega)
theorem x_56_5 : Ev d 56 5 (a0 :: .int x :: L) st μ Q = Ev d 56 6 (a0 :: .int x :: L) (.int x :: st) μ Q := e_iload_n (by decide +kernel : decode (bOf 56) 5 = .ok (.iload_n 1, 1)) rfl
theorem x_56_6 : Ev d 56 6 L st μ Q = Ev d 56 8 L (.int (iI 6) :: st) μ Q := e_bipush (by decide +kernel : decode (bOf 56) 6 = .ok (.bipush 6, 2)) (by decide +kernel)
theorem x_56_8 : Ev d 56 8 L (.int y :: .int x :: st) μ Q = if y < x then Ev d 56 16 L st μ Q else Ev d 56 11 L st μ Q := e_icmp_gt (by decide +kernel : decode (bOf 56) 8 = .ok (.if_icmp .gt 8, 3)) (by omega)
theorem x_56_11 : Ev d 56 11 (a0 :: a1 :: .int x :: L) st μ Q = Ev d 56 12 (a0 :: a1 :: .int x :: L) (.int x :: st) μ Q := e_iload_n (by decide +kernel : decode (bOf 56) 11 = .ok (.iload_n 2, 1)) rfl
theorem x_56_12 : Ev d 56 12 L st μ Q = Ev d 56 13 L (.int (iI (-1)) :: st) μ Q := e_iconst (by decide +kernel : decode (bOf 56) 12 = .ok (.iconst (-1), 1))
theorem x_56_13 : Ev d 56 13 L (.int y :: .int x :: st) μ Q = if x < y then Ev d 56 16 L st μ Q else Ev d 56 18 L st μ Q := e_icmp_ge (by decide +kernel : decode (bOf 56) 13 = .ok (.if_icmp .ge 5, 3)) (by omega)
theorem x_56_16 : Ev d 56 16 L st μ Q = Ev d 56 17 L (.int (iI (-1)) :: st) μ Q := e_iconst (by decide +kernel : decode (bOf 56) 16 = .ok (.iconst (-1), 1))
theorem x_56_17 : Ev d 56 17 L [.int x] μ Q = Q (some (.int x)) μ := e_iret (by decide +kernel : decode (bOf 56) 17 = .ok (.ireturn, 1)) (by decide +kernel)
theorem x_56_18 : Ev d 56 18 (.ref r :: L) st μ Q = Ev d 56 19 (.ref r :: L) (.ref r :: st) μ Q := e_aload_n (by decide +kernel : decode (bOf 56) 18 = .ok (.aload_n 0, 1)) rfl
theorem x_56_19 (h : kd t r = 4) : Ev d 56 19 L (.ref r :: st) (t, V, A, P) Q = Ev d 56 22 L (V r 0 :: st) (t, V, A, P) Q := e_getf (by decide +kernel : decode (bOf 56) 19 = .ok (.getfield 12, 3)) (by decide +kernel) (by decide +kernel) h
theorem x_56_22 (h : kd t r = 3) : Ev d 56 22 L (.ref r :: st) (t, V, A, P) Q = Ev d 56 25 L (V r 3 :: st) (t, V, A, P) Q := e_getf (by decide +kernel : decode (bOf 56) 22 = .ok (.getfield 63, 3)) (by decide +kernel) (by decide +kernel) h
theorem x_56_25 : Ev d 56 25 (a0 :: .int x :: L) st μ Q = Ev d 56 26 (a0 :: .int x :: L) (.int x :: st) μ Q := e_iload_n (by decide +kernel : decode (bOf 56) 25 = .ok (.iload_n 1, 1)) rfl
theorem x_56_26 : Ev d 56 26 L (.int y :: .int x :: st) μ Q = if x < y then Ev d 56 29 L st μ Q else Ev d 56 32 L st μ Q := e_icmp_ge (by decide +kernel : decode (bOf 56) 26 = .ok (.if_icmp .ge 6, 3)) (by omega)
theorem x_56_29 : Ev d 56 29 L st μ Q = Ev d 56 31 L (.int (iI (-2)) :: st) μ Q := e_bipush (by decide +kernel : decode (bOf 56) 29 = .ok (.bipush (-2), 2)) (by decide +kernel)
theorem x_56_31 : Ev d 56 31 L [.int x] μ Q = Q (some (.int x)) μ := e_iret (by decide +kernel : decode (bOf 56) 31 = .ok (.ireturn, 1)) (by decide +kernel)
theorem x_56_32 : Ev d 56 32 (a0 :: a1 :: .int x :: L) st μ Q = Ev d 56 33 (a0 :: a1 :: .int x :: L) (.int x :: st) μ Q := e_iload_n (by decide +kernel : decode (bOf 56) 32 = .ok (.iload_n 2, 1)) rfl
theorem x_56_33 : Ev d 56 33 (a0 :: .int x :: L) st μ Q = Ev d 56 34 (a0 :: .int x :: L) (.int x :: st) μ Q := e_iload_n (by decide +kernel : decode (bOf 56) 33 = .ok (.iload_n 1, 1)) rfl
theorem x_56_34 : Ev d 56 34 L (.int y :: .int x :: st) μ Q = if x < y then Ev d 56 40 L st μ Q else Ev d 56 37 L st μ Q := e_icmp_lt (by decide +kernel : decode (bOf 56) 34 = .ok (.if_icmp .lt 6, 3)) (by omega)
theorem x_56_37 : Ev d 56 37 L st μ Q = Ev d 56 39 L (.int (iI (-9)) :: st) μ Q := e_bipush (by decide +kernel : decode (bOf 56) 37 = .ok (.bipush (-9), 2)) (by decide +kernel)
theorem x_56_39 : Ev d 56 39 L [.int x] μ Q = Q (some (.int x)) μ := e_iret (by decide +kernel : decode (bOf 56) 39 = .ok (.ireturn, 1)) (by decide +kernel)
theorem x_56_40 : Ev d 56 40 (.ref r :: L) st μ Q = Ev d 56 41 (.ref r :: L) (.ref r :: st) μ Q := e_aload_n (by decide +kernel : decode (bOf 56) 40 = .ok (.aload_n 0, 1)) rfl
theorem x_56_41 (h : kd t r = 4) : Ev d 56 41 L (.ref r :: st) (t, V, A, P) Q = Ev d 56 44 L (V r 7 :: st) (t, V, A, P) Q := e_getf (by decide +kernel : decode (bOf 56) 41 = .ok (.getfield 44, 3)) (by decide +kernel) (by decide +kernel) h
theorem x_56_44 : Ev d 56 44 (.ref r :: L) st μ Q = Ev d 56 45 (.ref r :: L) (.ref r :: st) μ Q := e_aload_n (by decide +kernel : decode (bOf 56) 44 = .ok (.aload_n 0, 1)) rfl
theorem x_56_45 (h : kd t r = 4) : Ev d 56 45 L (.ref r :: st) (t, V, A, P) Q = Ev d 56 48 L (V r 0 :: st) (t, V, A, P) Q := e_getf (by decide +kernel : decode (bOf 56) 45 = .ok (.getfield 12, 3)) (by decide +kernel) (by decide +kernel) h
theorem x_56_48 : Ev d 56 48 (a0 :: .int x :: L) st μ Q = Ev d 56 49 (a0 :: .int x :: L) (.int x :: st) μ Q := e_iload_n (by decide +kernel : decode (bOf 56) 48 = .ok (.iload_n 1, 1)) rfl
theorem x_56_49 (h : kd t r = 0) : Ev d 56 49 L [b1, b0, .ref r] (t, V, A, P) Q = Call d 5 [.ref r, b0, b1] (t, V, A, P) (fun v μ1 => Ev d 56 52 L (v.toList ++ []) μ1 Q) := e_callV (a := [b0, b1]) (r := []) (by decide +kernel : decode (bOf 56) 49 = .ok (.invokevirtual 185, 3)) (by decide +kernel) (by decide +kernel) (by decide +kernel) (by omega) rfl (by simp) (by decide +kernel) h
theorem x_56_52 : Ev d 56 52 (a0 :: a1 :: .int x :: L) st μ Q = Ev d 56 53 (a0 :: a1 :: .int x :: L) (.int x :: st) μ Q := e_iload_n (by decide +kernel : decode (bOf 56) 52 = .ok (.iload_n 2, 1)) rfl
theorem x_56_53 : Ev d 56 53 L st μ Q = Ev d 56 54 L (.int (iI (-1)) :: st) μ Q := e_iconst (by decide +kernel : decode (bOf 56) 53 = .ok (.iconst (-1), 1))
theorem x_56_54 : Ev d 56 54 L (.int y :: .int x :: st) μ Q = if x = y then Ev d 56 57 L st μ Q else Ev d 56 67 L st μ Q := e_icmp_ne (by decide +kernel : decode (bOf 56) 54 = .ok (.if_icmp .ne 13, 3)) (by omega)
theorem x_56_57 : Ev d 56 57 (.ref r :: L) st μ Q = Ev d 56 58 (.ref r :: L) (.ref r :: st) μ Q := e_aload_n (by decide +kernel : decode (bOf 56) 57 = .ok (.aload_n 0, 1)) rfl
theorem x_56_58 (h : kd t r = 4) : Ev d 56 58 L (.ref r :: st) (t, V, A, P) Q = Ev d 56 61 L (V r 7 :: st) (t, V, A, P) Q := e_getf (by decide +kernel : decode (bOf 56) 58 = .ok (.getfield 44, 3)) (by decide +kernel) (by decide +kernel) h
theorem x_56_61 (h : kd t r = 0) : Ev d 56 61 L (.ref r :: st) (t, V, A, P) Q = Ev d 56 64 L (V r 5 :: st) (t, V, A, P) Q := e_getf (by decide +kernel : decode (bOf 56) 61 = .ok (.getfield 189, 3)) (by decide +kernel) (by decide +kernel) h
theorem x_56_64 : Ev d 56 64 L st μ Q = Ev d 56 75 L st μ Q := e_goto (by decide +kernel : decode (bOf 56) 64 = .ok (.goto 11, 3)) (by omega)
theorem x_56_67 : Ev d 56 67 (.ref r :: L) st μ Q = Ev d 56 68 (.ref r :: L) (.ref r :: st) μ Q := e_aload_n (by decide +kernel : decode (bOf 56) 67 = .ok (.aload_n 0, 1)) rfl
theorem x_56_68 (h : kd t r = 4) : Ev d 56 68 L (.ref r :: st) (t, V, A, P) Q = Ev d 56 71 L (V r 7 :: st) (t, V, A, P) Q := e_getf (by decide +kernel : decode (bOf 56) 68 = .ok (.getfield 44, 3)) (by decide +kernel) (by decide +kernel) h
theorem x_56_71 : Ev d 56 71 (a0 :: a1 :: .int x :: L) st μ Q = Ev d 56 72 (a0 :: a1 :: .int x :: L) (.int x :: st) μ Q := e_iload_n (by decide +kernel : decode (bOf 56) 71 = .ok (.iload_n 2, 1)) rfl
theorem x_56_72 (h : kd t r = 0) : Ev d 56 72 L [b0, .ref r] (t, V, A, P) Q = Call d 7 [.ref r, b0] (t, V, A, P) (fun v μ1 => Ev d 56 75 L (v.toList ++ []) μ1 Q) := e_callV (a := [b0]) (r := []) (by decide +kernel : decode (bOf 56) 72 = .ok (.invokevirtual 192, 3)) (by decide +kernel) (by decide +kernel) (by decide +kernel) (by omega) rfl (by simp) (by decide +kernel) h
theorem x_56_75 : Ev d 56 75 L [.int x] μ Q = Q (some (.int x)) μ := e_iret (by decide +kernel : decode (bOf 56) 75 = .ok (.ireturn, 1)) (by decide +kernel)
theorem c_57 : Call (d + 1) 57 [.ref r0, .int i1] μ Q = Ev d 57 0 [.ref r0, .int i1, .null, .null, .null, .null] [] μ Q := call_ev rfl rfl 
theorem x_57_0 : Ev d 57 0 L st μ Q = Ev d 57 1 L (.long (Int64.ofInt 0) :: st) μ Q := e_lconst (by decide +kernel : decode (bOf 57) 0 = .ok (.lconst 0, 1))
theorem x_57_1 (h : a1.category = 1) (h2 : b0.category = 1) : Ev d 57 1 (a0 :: a1 :: a2 :: b0 :: L) (.long w :: st) μ Q = Ev d 57 2 (a0 :: a1 :: .long w :: .null :: L) st μ Q := e_lstore_n (by decide +kernel : decode (bOf 57) 1 = .ok (.lstore_n 2, 1)) (by show stOK _ 2 = true ∧ 2 + 1 < _ ∧ (List.getD _ (2 + 1) Value.null).category = 1; simp [stOK, h, h2])
theorem x_57_2 : Ev d 57 2 (.ref r :: L) st μ Q = Ev d 57 3 (.ref r :: L) (.ref r :: st) μ Q := e_aload_n (by decide +kernel : decode (bOf 57) 2 = .ok (.aload_n 0, 1)) rfl
theorem x_57_3 (h : kd t r = 4) : Ev d 57 3 L (.ref r :: st) (t, V, A, P) Q = Ev d 57 6 L (V r 8 :: st) (t, V, A, P) Q := e_getf (by decide +kernel : decode (bOf 57) 3 = .ok (.getfield 51, 3)) (by decide +kernel) (by decide +kernel) h
theorem x_57_6 : Ev d 57 6 L st μ Q = Ev d 57 7 L (.int (iI (-1)) :: st) μ Q := e_iconst (by decide +kernel : decode (bOf 57) 6 = .ok (.iconst (-1), 1))
theorem x_57_7 (h : kd t r = 2) : Ev d 57 7 L [b0, .ref r] (t, V, A, P) Q = Call d 21 [.ref r, b0] (t, V, A, P) (fun v μ1 => Ev d 57 10 L (v.toList ++ []) μ1 Q) := e_callV (a := [b0]) (r := []) (by decide +kernel : decode (bOf 57) 7 = .ok (.invokevirtual 173, 3)) (by decide +kernel) (by decide +kernel) (by decide +kernel) (by omega) rfl (by simp) (by decide +kernel) h
theorem x_57_10 : Ev d 57 10 L st μ Q = Ev d 57 11 L (.int (iI 0) :: st) μ Q := e_iconst (by decide +kernel : decode (bOf 57) 10 = .ok (.iconst 0, 1))
theorem x_57_11 (h : a3.category = 1) : Ev d 57 11 (a0 :: a1 :: a2 :: a3 :: a4 :: L) (.int x :: st) μ Q = Ev d 57 13 (a0 :: a1 :: a2 :: a3 :: .int x :: L) st μ Q := e_istore (by decide +kernel : decode (bOf 57) 11 = .ok (.istore 4, 2)) (by show stOK _ 4 = true; simp [stOK, h])
theorem x_57_13 : Ev d 57 13 (a0 :: a1 :: a2 :: a3 :: .int x :: L) st μ Q = Ev d 57 15 (a0 :: a1 :: a2 :: a3 :: .int x :: L) (.int x :: st) μ Q := e_iload (by decide +kernel : decode (bOf 57) 13 = .ok (.iload 4, 2)) rfl
theorem x_57_15 : Ev d 57 15 (.ref r :: L) st μ Q = Ev d 57 16 (.ref r :: L) (.ref r :: st) μ Q := e_aload_n (by decide +kernel : decode (bOf 57) 15 = .ok (.aload_n 0, 1)) rfl
theorem x_57_16 (h : kd t r = 4) : Ev d 57 16 L (.ref r :: st) (t, V, A, P) Q = Ev d 57 19 L (V r 0 :: st) (t, V, A, P) Q := e_getf (by decide +kernel : decode (bOf 57) 16 = .ok (.getfield 12, 3)) (by decide +kernel) (by decide +kernel) h
theorem x_57_19 (h : kd t r = 3) : Ev d 57 19 L [.ref r, s0] (t, V, A, P) Q = Call d 32 [.ref r] (t, V, A, P) (fun v μ1 => Ev d 57 22 L (v.toList ++ [s0]) μ1 Q) := e_callV (a := []) (r := [s0]) (by decide +kernel : decode (bOf 57) 19 = .ok (.invokevirtual 176, 3)) (by decide +kernel) (by decide +kernel) (by decide +kernel) (by omega) rfl (by simp) (by decide +kernel) h
theorem x_57_22 : Ev d 57 22 L (.int y :: .int x :: st) μ Q = if x < y then Ev d 57 25 L st μ Q else Ev d 57 64 L st μ Q := e_icmp_ge (by decide +kernel : decode (bOf 57) 22 = .ok (.if_icmp .ge 42, 3)) (by omega)
theorem x_57_25 : Ev d 57 25 (.ref r :: L) st μ Q = Ev d 57 26 (.ref r :: L) (.ref r :: st) μ Q := e_aload_n (by decide +kernel : decode (bOf 57) 25 = .ok (.aload_n 0, 1)) rfl
theorem x_57_26 (h : kd t r = 4) : Ev d 57 26 L (.ref r :: st) (t, V, A, P) Q = Ev d 57 29 L (V r 8 :: st) (t, V, A, P) Q := e_getf (by decide +kernel : decode (bOf 57) 26 = .ok (.getfield 51, 3)) (by decide +kernel) (by decide +kernel) h
theorem x_57_29 : Ev d 57 29 (.ref r :: L) st μ Q = Ev d 57 30 (.ref r :: L) (.ref r :: st) μ Q := e_aload_n (by decide +kernel : decode (bOf 57) 29 = .ok (.aload_n 0, 1)) rfl
theorem x_57_30 (h : kd t r = 4) : Ev d 57 30 L (.ref r :: st) (t, V, A, P) Q = Ev d 57 33 L (V r 0 :: st) (t, V, A, P) Q := e_getf (by decide +kernel : decode (bOf 57) 30 = .ok (.getfield 12, 3)) (by decide +kernel) (by decide +kernel) h
theorem x_57_33 : Ev d 57 33 (a0 :: a1 :: a2 :: a3 :: .int x :: L) st μ Q = Ev d 57 35 (a0 :: a1 :: a2 :: a3 :: .int x :: L) (.int x :: st) μ Q := e_iload (by decide +kernel : decode (bOf 57) 33 = .ok (.iload 4, 2)) rfl
theorem x_57_35 (h : kd t r = 3) : Ev d 57 35 L [b0, .ref r, s0] (t, V, A, P) Q = Call d 34 [.ref r, b0] (t, V, A, P) (fun v μ1 => Ev d 57 38 L (v.toList ++ [s0]) μ1 Q) := e_callV (a := [b0]) (r := [s0]) (by decide +kernel : decode (bOf 57) 35 = .ok (.invokevirtual 87, 3)) (by decide +kernel) (by decide +kernel) (by decide +kernel) (by omega) rfl (by simp) (by decide +kernel) h
theorem x_57_38 (h : kd t r = 2) : Ev d 57 38 L [b0, .ref r] (t, V, A, P) Q = Call d 23 [.ref r, b0] (t, V, A, P) (fun v μ1 => Ev d 57 41 L (v.toList ++ []) μ1 Q) := e_callV (a := [b0]) (r := []) (by decide +kernel : decode (bOf 57) 38 = .ok (.invokevirtual 179, 3)) (by decide +kernel) (by decide +kernel) (by decide +kernel) (by omega) rfl (by simp) (by decide +kernel) h
theorem x_57_41 : Ev d 57 41 (a0 :: a1 :: .long w :: L) st μ Q = Ev d 57 42 (a0 :: a1 :: .long w :: L) (.long w :: st) μ Q := e_lload_n (by decide +kernel : decode (bOf 57) 41 = .ok (.lload_n 2, 1)) rfl
theorem x_57_42 : Ev d 57 42 (.ref r :: L) st μ Q = Ev d 57 43 (.ref r :: L) (.ref r :: st) μ Q := e_aload_n (by decide +kernel : decode (bOf 57) 42 = .ok (.aload_n 0, 1)) rfl
theorem x_57_43 (h : kd t r = 4) : Ev d 57 43 L (.ref r :: st) (t, V, A, P) Q = Ev d 57 46 L (V r 8 :: st) (t, V, A, P) Q := e_getf (by decide +kernel : decode (bOf 57) 43 = .ok (.getfield 51, 3)) (by decide +kernel) (by decide +kernel) h
theorem x_57_46 (h : kd t r = 2) : Ev d 57 46 L (.ref r :: st) (t, V, A, P) Q = Ev d 57 49 L (V r 1 :: st) (t, V, A, P) Q := e_getf (by decide +kernel : decode (bOf 57) 46 = .ok (.getfield 182, 3)) (by decide +kernel) (by decide +kernel) h
theorem x_57_49 : Ev d 57 49 L (.int x :: st) μ Q = Ev d 57 50 L (.long x.toInt64 :: st) μ Q := e_i2l (by decide +kernel : decode (bOf 57) 49 = .ok (.i2l, 1))
theorem x_57_50 : Ev d 57 50 (a0 :: a1 :: a2 :: a3 :: .int x :: L) st μ Q = Ev d 57 52 (a0 :: a1 :: a2 :: a3 :: .int x :: L) (.int x :: st) μ Q := e_iload (by decide +kernel : decode (bOf 57) 50 = .ok (.iload 4, 2)) rfl
theorem x_57_52 : Ev d 57 52 L st μ Q = Ev d 57 53 L (.int (iI 1) :: st) μ Q := e_iconst (by decide +kernel : decode (bOf 57) 52 = .ok (.iconst 1, 1))
theorem x_57_53 : Ev d 57 53 L (.int y :: .int x :: st) μ Q = Ev d 57 54 L (.int (x + y) :: st) μ Q := e_iadd (by decide +kernel : decode (bOf 57) 53 = .ok (.iadd, 1))
theorem x_57_54 : Ev d 57 54 L (.int x :: st) μ Q = Ev d 57 55 L (.long x.toInt64 :: st) μ Q := e_i2l (by decide +kernel : decode (bOf 57) 54 = .ok (.i2l, 1))
theorem x_57_55 : Ev d 57 55 L (.long z :: .long w :: st) μ Q = Ev d 57 56 L (.long (w * z) :: st) μ Q := e_lmul (by decide +kernel : decode (bOf 57) 55 = .ok (.lmul, 1))
theorem x_57_56 : Ev d 57 56 L (.long z :: .long w :: st) μ Q = Ev d 57 57 L (.long (w + z) :: st) μ Q := e_ladd (by decide +kernel : decode (bOf 57) 56 = .ok (.ladd, 1))
theorem x_57_57 (h : a1.category = 1) (h2 : b0.category = 1) : Ev d 57 57 (a0 :: a1 :: a2 :: b0 :: L) (.long w :: st) μ Q = Ev d 57 58 (a0 :: a1 :: .long w :: .null :: L) st μ Q := e_lstore_n (by decide +kernel : decode (bOf 57) 57 = .ok (.lstore_n 2, 1)) (by show stOK _ 2 = true ∧ 2 + 1 < _ ∧ (List.getD _ (2 + 1) Value.null).category = 1; simp [stOK, h, h2])
theorem x_57_58 (h : a3.category = 1) : Ev d 57 58 (a0 :: a1 :: a2 :: a3 :: .int x :: L) st μ Q = Ev d 57 61 (a0 :: a1 :: a2 :: a3 :: .int (x + (iI 1)) :: L) st μ Q := e_iinc (by decide +kernel : decode (bOf 57) 58 = .ok (.iinc 4 1, 3)) rfl (by simp [stOK, h])
theorem x_57_61 : Ev d 57 61 L st μ Q = Ev d 57 13 L st μ Q := e_goto (by decide +kernel : decode (bOf 57) 61 = .ok (.goto (-48), 3)) (by omega)
theorem x_57_64 : Ev d 57 64 (a0 :: a1 :: .long w :: L) st μ Q = Ev d 57 65 (a0 :: a1 :: .long w :: L) (.long w :: st) μ Q := e_lload_n (by decide +kernel : decode (bOf 57) 64 = .ok (.lload_n 2, 1)) rfl
theorem x_57_65 : Ev d 57 65 (a0 :: .int x :: L) st μ Q = Ev d 57 66 (a0 :: .int x :: L) (.int x :: st) μ Q := e_iload_n (by decide +kernel : decode (bOf 57) 65 = .ok (.iload_n 1, 1)) rfl
theorem x_57_66 : Ev d 57 66 L (.int x :: st) μ Q = Ev d 57 67 L (.long x.toInt64 :: st) μ Q := e_i2l (by decide +kernel : decode (bOf 57) 66 = .ok (.i2l, 1))
theorem x_57_67 : Ev d 57 67 L (.long z :: .long w :: st) μ Q = Ev d 57 68 L (.long (w * z) :: st) μ Q := e_lmul (by decide +kernel : decode (bOf 57) 67 = .ok (.lmul, 1))
theorem x_57_68 (h : a3.category = 1) (h2 : b0.category = 1) : Ev d 57 68 (a0 :: a1 :: a2 :: a3 :: a4 :: b0 :: L) (.long w :: st) μ Q = Ev d 57 70 (a0 :: a1 :: a2 :: a3 :: .long w :: .null :: L) st μ Q := e_lstore (by decide +kernel : decode (bOf 57) 68 = .ok (.lstore 4, 2)) (by show stOK _ 4 = true ∧ 4 + 1 < _ ∧ (List.getD _ (4 + 1) Value.null).category = 1; simp [stOK, h, h2])
theorem x_57_70 : Ev d 57 70 (a0 :: a1 :: a2 :: a3 :: .long w :: L) st μ Q = Ev d 57 72 (a0 :: a1 :: a2 :: a3 :: .long w :: L) (.long w :: st) μ Q := e_lload (by decide +kernel : decode (bOf 57) 70 = .ok (.lload 4, 2)) rfl
theorem x_57_72 : Ev d 57 72 L st μ Q = Ev d 57 75 L (.long (Int64.ofInt (-999999)) :: st) μ Q := e_ldc2_w (by decide +kernel : decode (bOf 57) 72 = .ok (.ldc2_w 195, 3)) (by decide +kernel)
theorem x_57_75 : Ev d 57 75 L (.long z :: .long w :: st) μ Q = Ev d 57 76 L (.int (lg_cmp w z) :: st) μ Q := e_lcmp (by decide +kernel : decode (bOf 57) 75 = .ok (.lcmp, 1))
theorem x_57_76 : Ev d 57 76 L (.int x :: st) μ Q = if x < iI 0 then Ev d 57 88 L st μ Q else Ev d 57 79 L st μ Q := e_if_lt (by decide +kernel : decode (bOf 57) 76 = .ok (.ifCond .lt 12, 3)) (by omega)
theorem x_57_79 : Ev d 57 79 (a0 :: a1 :: a2 :: a3 :: .long w :: L) st μ Q = Ev d 57 81 (a0 :: a1 :: a2 :: a3 :: .long w :: L) (.long w :: st) μ Q := e_lload (by decide +kernel : decode (bOf 57) 79 = .ok (.lload 4, 2)) rfl
theorem x_57_81 : Ev d 57 81 L st μ Q = Ev d 57 84 L (.long (Int64.ofInt (999999)) :: st) μ Q := e_ldc2_w (by decide +kernel : decode (bOf 57) 81 = .ok (.ldc2_w 197, 3)) (by decide +kernel)
theorem x_57_84 : Ev d 57 84 L (.long z :: .long w :: st) μ Q = Ev d 57 85 L (.int (lg_cmp w z) :: st) μ Q := e_lcmp (by decide +kernel : decode (bOf 57) 84 = .ok (.lcmp, 1))
theorem x_57_85 : Ev d 57 85 L (.int x :: st) μ Q = if iI 0 < x then Ev d 57 88 L st μ Q else Ev d 57 93 L st μ Q := e_if_le (by decide +kernel : decode (bOf 57) 85 = .ok (.ifCond .le 8, 3)) (by omega)
theorem x_57_88 : Ev d 57 88 L st μ Q = Ev d 57 90 L (.int (iI (-1000000)) :: st) μ Q := e_ldc (by decide +kernel : decode (bOf 57) 88 = .ok (.ldc 150, 2)) (by decide +kernel)
theorem x_57_90 : Ev d 57 90 L st μ Q = Ev d 57 96 L st μ Q := e_goto (by decide +kernel : decode (bOf 57) 90 = .ok (.goto 6, 3)) (by omega)
theorem x_57_93 : Ev d 57 93 (a0 :: a1 :: a2 :: a3 :: .long w :: L) st μ Q = Ev d 57 95 (a0 :: a1 :: a2 :: a3 :: .long w :: L) (.long w :: st) μ Q := e_lload (by decide +kernel : decode (bOf 57) 93 = .ok (.lload 4, 2)) rfl
theorem x_57_95 : Ev d 57 95 L (.long w :: st) μ Q = Ev d 57 96 L (.int w.toInt32 :: st) μ Q := e_l2i (by decide +kernel : decode (bOf 57) 95 = .ok (.l2i, 1))
theorem x_57_96 : Ev d 57 96 L [.int x] μ Q = Q (some (.int x)) μ := e_iret (by decide +kernel : decode (bOf 57) 96 = .ok (.ireturn, 1)) (by decide +kernel)
theorem c_58 : Call (d + 1) 58 [.ref r0, .int i1] μ Q = Ev d 58 0 [.ref r0, .int i1] [] μ Q := call_ev rfl rfl 
theorem x_58_0 : Ev d 58 0 (a0 :: .int x :: L) st μ Q = Ev d 58 1 (a0 :: .int x :: L) (.int x :: st) μ Q := e_iload_n (by decide +kernel : decode (bOf 58) 0 = .ok (.iload_n 1, 1)) rfl
theorem x_58_1 : Ev d 58 1 L (.int x :: st) μ Q = if x < iI 0 then Ev d 58 9 L st μ Q else Ev d 58 4 L st μ Q := e_if_lt (by decide +kernel : decode (bOf 58) 1 = .ok (.ifCond .lt 8, 3)) (by omega)
theorem x_58_4 : Ev d 58 4 (a0 :: .int x :: L) st μ Q = Ev d 58 5 (a0 :: .int x :: L) (.int x :: st) μ Q := e_iload_n (by decide +kernel : decode (bOf 58) 4 = .ok (.iload_n 1, 1)) rfl
theorem x_58_5 : Ev d 58 5 L st μ Q = Ev d 58 6 L (.int (iI 2) :: st) μ Q := e_iconst (by decide +kernel : decode (bOf 58) 5 = .ok (.iconst 2, 1))
theorem x_58_6 : Ev d 58 6 L (.int y :: .int x :: st) μ Q = if x < y then Ev d 58 11 L st μ Q else Ev d 58 9 L st μ Q := e_icmp_lt (by decide +kernel : decode (bOf 58) 6 = .ok (.if_icmp .lt 5, 3)) (by omega)
theorem x_58_9 : Ev d 58 9 L st μ Q = Ev d 58 10 L (.int (iI (-1)) :: st) μ Q := e_iconst (by decide +kernel : decode (bOf 58) 9 = .ok (.iconst (-1), 1))
theorem x_58_10 : Ev d 58 10 L [.int x] μ Q = Q (some (.int x)) μ := e_iret (by decide +kernel : decode (bOf 58) 10 = .ok (.ireturn, 1)) (by decide +kernel)
theorem x_58_11 : Ev d 58 11 (.ref r :: L) st μ Q = Ev d 58 12 (.ref r :: L) (.ref r :: st) μ Q := e_aload_n (by decide +kernel : decode (bOf 58) 11 = .ok (.aload_n 0, 1)) rfl
theorem x_58_12 (h : kd t r = 4) : Ev d 58 12 L (.ref r :: st) (t, V, A, P) Q = Ev d 58 15 L (V r 0 :: st) (t, V, A, P) Q := e_getf (by decide +kernel : decode (bOf 58) 12 = .ok (.getfield 12, 3)) (by decide +kernel) (by decide +kernel) h
theorem x_58_15 : Ev d 58 15 (.ref r :: L) st μ Q = Ev d 58 16 (.ref r :: L) (.ref r :: st) μ Q := e_aload_n (by decide +kernel : decode (bOf 58) 15 = .ok (.aload_n 0, 1)) rfl
theorem x_58_16 (h : kd t r = 4) : Ev d 58 16 L (.ref r :: st) (t, V, A, P) Q = Ev d 58 19 L (V r 2 :: st) (t, V, A, P) Q := e_getf (by decide +kernel : decode (bOf 58) 16 = .ok (.getfield 20, 3)) (by decide +kernel) (by decide +kernel) h
theorem x_58_19 : Ev d 58 19 (a0 :: .int x :: L) st μ Q = Ev d 58 20 (a0 :: .int x :: L) (.int x :: st) μ Q := e_iload_n (by decide +kernel : decode (bOf 58) 19 = .ok (.iload_n 1, 1)) rfl
theorem x_58_20 (h : kd t r = 9) (hi : inB x (ln t r) = true) : Ev d 58 20 L (.int x :: .ref r :: st) (t, V, A, P) Q = Ev d 58 21 L (va_rf (P r x.toNatClampNeg) :: st) (t, V, A, P) Q := e_aald 9 (by omega) (by decide +kernel : decode (bOf 58) 20 = .ok (.aaload, 1)) h hi
theorem x_58_21 : Ev d 58 21 L [b1, b0] μ Q = Call d 28 [b0, b1] μ (fun v μ1 => Ev d 58 24 L (v.toList ++ []) μ1 Q) := e_callS (a := [b0, b1]) (r := []) (by decide +kernel : decode (bOf 58) 21 = .ok (.invokestatic 96, 3)) (by decide +kernel) (by decide +kernel) (by omega) rfl (by simp)
theorem x_58_24 : Ev d 58 24 (.ref r :: L) st μ Q = Ev d 58 25 (.ref r :: L) (.ref r :: st) μ Q := e_aload_n (by decide +kernel : decode (bOf 58) 24 = .ok (.aload_n 0, 1)) rfl
theorem x_58_25 (h : kd t r = 4) : Ev d 58 25 L (.ref r :: st) (t, V, A, P) Q = Ev d 58 28 L (V r 3 :: st) (t, V, A, P) Q := e_getf (by decide +kernel : decode (bOf 58) 25 = .ok (.getfield 23, 3)) (by decide +kernel) (by decide +kernel) h
theorem x_58_28 : Ev d 58 28 (a0 :: .int x :: L) st μ Q = Ev d 58 29 (a0 :: .int x :: L) (.int x :: st) μ Q := e_iload_n (by decide +kernel : decode (bOf 58) 28 = .ok (.iload_n 1, 1)) rfl
theorem x_58_29 : Ev d 58 29 L st μ Q = Ev d 58 30 L (.int (iI 1) :: st) μ Q := e_iconst (by decide +kernel : decode (bOf 58) 29 = .ok (.iconst 1, 1))
theorem x_58_30 (h : kd t r = 7) (hi : inB x (ln t r) = true) (hx : isB y) : Ev d 58 30 L (.int y :: .int x :: .ref r :: st) (t, V, A, P) Q = Ev d 58 31 L st (t, V, up1 A r (upd (A r) x.toNatClampNeg y), P) Q := e_bast (by decide +kernel : decode (bOf 58) 30 = .ok (.bastore, 1)) h hi hx
theorem x_58_31 : Ev d 58 31 (.ref r :: L) st μ Q = Ev d 58 32 (.ref r :: L) (.ref r :: st) μ Q := e_aload_n (by decide +kernel : decode (bOf 58) 31 = .ok (.aload_n 0, 1)) rfl
theorem x_58_32 (h : kd t r = 4) : Ev d 58 32 L (.ref r :: st) (t, V, A, P) Q = Ev d 58 35 L (V r 0 :: st) (t, V, A, P) Q := e_getf (by decide +kernel : decode (bOf 58) 32 = .ok (.getfield 12, 3)) (by decide +kernel) (by decide +kernel) h
theorem x_58_35 (h : kd t r = 3) : Ev d 58 35 L (.ref r :: st) (t, V, A, P) Q = Ev d 58 38 L (V r 3 :: st) (t, V, A, P) Q := e_getf (by decide +kernel : decode (bOf 58) 35 = .ok (.getfield 63, 3)) (by decide +kernel) (by decide +kernel) h
theorem x_58_38 : Ev d 58 38 L [.int x] μ Q = Q (some (.int x)) μ := e_iret (by decide +kernel : decode (bOf 58) 38 = .ok (.ireturn, 1)) (by decide +kernel)
theorem c_59 : Call (d + 1) 59 [.ref r0, .int i1] μ Q = Ev d 59 0 [.ref r0, .int i1] [] μ Q := call_ev rfl rfl 
theorem x_59_0 : Ev d 59 0 (a0 :: .int x :: L) st μ Q = Ev d 59 1 (a0 :: .int x :: L) (.int x :: st) μ Q := e_iload_n (by decide +kernel : decode (bOf 59) 0 = .ok (.iload_n 1, 1)) rfl
theorem x_59_1 : Ev d 59 1 L (.int x :: st) μ Q = if x < iI 0 then Ev d 59 9 L st μ Q else Ev d 59 4 L st μ Q := e_if_lt (by decide +kernel : decode (bOf 59) 1 = .ok (.ifCond .lt 8, 3)) (by omega)
theorem x_59_4 : Ev d 59 4 (a0 :: .int x :: L) st μ Q = Ev d 59 5 (a0 :: .int x :: L) (.int x :: st) μ Q := e_iload_n (by decide +kernel : decode (bOf 59) 4 = .ok (.iload_n 1, 1)) rfl
theorem x_59_5 : Ev d 59 5 L st μ Q = Ev d 59 6 L (.int (iI 2) :: st) μ Q := e_iconst (by decide +kernel : decode (bOf 59) 5 = .ok (.iconst 2, 1))
theorem x_59_6 : Ev d 59 6 L (.int y :: .int x :: st) μ Q = if x < y then Ev d 59 11 L st μ Q else Ev d 59 9 L st μ Q := e_icmp_lt (by decide +kernel : decode (bOf 59) 6 = .ok (.if_icmp .lt 5, 3)) (by omega)
theorem x_59_9 : Ev d 59 9 L st μ Q = Ev d 59 10 L (.int (iI (-1)) :: st) μ Q := e_iconst (by decide +kernel : decode (bOf 59) 9 = .ok (.iconst (-1), 1))
theorem x_59_10 : Ev d 59 10 L [.int x] μ Q = Q (some (.int x)) μ := e_iret (by decide +kernel : decode (bOf 59) 10 = .ok (.ireturn, 1)) (by decide +kernel)
theorem x_59_11 : Ev d 59 11 (.ref r :: L) st μ Q = Ev d 59 12 (.ref r :: L) (.ref r :: st) μ Q := e_aload_n (by decide +kernel : decode (bOf 59) 11 = .ok (.aload_n 0, 1)) rfl
theorem x_59_12 (h : kd t r = 4) : Ev d 59 12 L (.ref r :: st) (t, V, A, P) Q = Ev d 59 15 L (V r 3 :: st) (t, V, A, P) Q := e_getf (by decide +kernel : decode (bOf 59) 12 = .ok (.getfield 23, 3)) (by decide +kernel) (by decide +kernel) h
theorem x_59_15 : Ev d 59 15 (a0 :: .int x :: L) st μ Q = Ev d 59 16 (a0 :: .int x :: L) (.int x :: st) μ Q := e_iload_n (by decide +kernel : decode (bOf 59) 15 = .ok (.iload_n 1, 1)) rfl
theorem x_59_16 (h : kd t r = 7) (hi : inB x (ln t r) = true) : Ev d 59 16 L (.int x :: .ref r :: st) (t, V, A, P) Q = Ev d 59 17 L (.int (A r x.toNatClampNeg) :: st) (t, V, A, P) Q := e_bald (by decide +kernel : decode (bOf 59) 16 = .ok (.baload, 1)) h hi
theorem x_59_17 : Ev d 59 17 L (.int x :: st) μ Q = if x = iI 0 then Ev d 59 20 L st μ Q else Ev d 59 23 L st μ Q := e_if_ne (by decide +kernel : decode (bOf 59) 17 = .ok (.ifCond .ne 6, 3)) (by omega)
theorem x_59_20 : Ev d 59 20 L st μ Q = Ev d 59 22 L (.int (iI (-2)) :: st) μ Q := e_bipush (by decide +kernel : decode (bOf 59) 20 = .ok (.bipush (-2), 2)) (by decide +kernel)
theorem x_59_22 : Ev d 59 22 L [.int x] μ Q = Q (some (.int x)) μ := e_iret (by decide +kernel : decode (bOf 59) 22 = .ok (.ireturn, 1)) (by decide +kernel)
theorem x_59_23 : Ev d 59 23 (.ref r :: L) st μ Q = Ev d 59 24 (.ref r :: L) (.ref r :: st) μ Q := e_aload_n (by decide +kernel : decode (bOf 59) 23 = .ok (.aload_n 0, 1)) rfl
theorem x_59_24 (h : kd t r = 4) : Ev d 59 24 L (.ref r :: st) (t, V, A, P) Q = Ev d 59 27 L (V r 2 :: st) (t, V, A, P) Q := e_getf (by decide +kernel : decode (bOf 59) 24 = .ok (.getfield 20, 3)) (by decide +kernel) (by decide +kernel) h
theorem x_59_27 : Ev d 59 27 (a0 :: .int x :: L) st μ Q = Ev d 59 28 (a0 :: .int x :: L) (.int x :: st) μ Q := e_iload_n (by decide +kernel : decode (bOf 59) 27 = .ok (.iload_n 1, 1)) rfl
theorem x_59_28 (h : kd t r = 9) (hi : inB x (ln t r) = true) : Ev d 59 28 L (.int x :: .ref r :: st) (t, V, A, P) Q = Ev d 59 29 L (va_rf (P r x.toNatClampNeg) :: st) (t, V, A, P) Q := e_aald 9 (by omega) (by decide +kernel : decode (bOf 59) 28 = .ok (.aaload, 1)) h hi
theorem x_59_29 : Ev d 59 29 (.ref r :: L) st μ Q = Ev d 59 30 (.ref r :: L) (.ref r :: st) μ Q := e_aload_n (by decide +kernel : decode (bOf 59) 29 = .ok (.aload_n 0, 1)) rfl
theorem x_59_30 (h : kd t r = 4) : Ev d 59 30 L (.ref r :: st) (t, V, A, P) Q = Ev d 59 33 L (V r 0 :: st) (t, V, A, P) Q := e_getf (by decide +kernel : decode (bOf 59) 30 = .ok (.getfield 12, 3)) (by decide +kernel) (by decide +kernel) h
theorem x_59_33 : Ev d 59 33 L [b1, b0] μ Q = Call d 28 [b0, b1] μ (fun v μ1 => Ev d 59 36 L (v.toList ++ []) μ1 Q) := e_callS (a := [b0, b1]) (r := []) (by decide +kernel : decode (bOf 59) 33 = .ok (.invokestatic 96, 3)) (by decide +kernel) (by decide +kernel) (by omega) rfl (by simp)
theorem x_59_36 : Ev d 59 36 (.ref r :: L) st μ Q = Ev d 59 37 (.ref r :: L) (.ref r :: st) μ Q := e_aload_n (by decide +kernel : decode (bOf 59) 36 = .ok (.aload_n 0, 1)) rfl
theorem x_59_37 : Ev d 59 37 L st μ Q = Ev d 59 38 L (.int (iI 0) :: st) μ Q := e_iconst (by decide +kernel : decode (bOf 59) 37 = .ok (.iconst 0, 1))
theorem x_59_38 (h : kd t r = 4) : Ev d 59 38 L (.int x :: .ref r :: st) (t, V, A, P) Q = Ev d 59 41 L st (t, up1 V r (up1 (V r) 11 (.int x)), A, P) Q := e_putf (by decide +kernel : decode (bOf 59) 38 = .ok (.putfield 93, 3)) (by decide +kernel) (by decide +kernel) rfl h
theorem x_59_41 : Ev d 59 41 (.ref r :: L) st μ Q = Ev d 59 42 (.ref r :: L) (.ref r :: st) μ Q := e_aload_n (by decide +kernel : decode (bOf 59) 41 = .ok (.aload_n 0, 1)) rfl
theorem x_59_42 (h : kd t r = 4) : Ev d 59 42 L (.ref r :: st) (t, V, A, P) Q = Ev d 59 45 L (V r 0 :: st) (t, V, A, P) Q := e_getf (by decide +kernel : decode (bOf 59) 42 = .ok (.getfield 12, 3)) (by decide +kernel) (by decide +kernel) h
theorem x_59_45 (h : kd t r = 3) : Ev d 59 45 L (.ref r :: st) (t, V, A, P) Q = Ev d 59 48 L (V r 3 :: st) (t, V, A, P) Q := e_getf (by decide +kernel : decode (bOf 59) 45 = .ok (.getfield 63, 3)) (by decide +kernel) (by decide +kernel) h
theorem x_59_48 : Ev d 59 48 L [.int x] μ Q = Q (some (.int x)) μ := e_iret (by decide +kernel : decode (bOf 59) 48 = .ok (.ireturn, 1)) (by decide +kernel)
theorem c_60 : Call (d + 1) 60 [.ref r0, .int i1] μ Q = Ev d 60 0 [.ref r0, .int i1] [] μ Q := call_ev rfl rfl 
theorem x_60_0 : Ev d 60 0 (a0 :: .int x :: L) st μ Q = Ev d 60 1 (a0 :: .int x :: L) (.int x :: st) μ Q := e_iload_n (by decide +kernel : decode (bOf 60) 0 = .ok (.iload_n 1, 1)) rfl
theorem x_60_1 : Ev d 60 1 L (.int x :: st) μ Q = if x = iI 0 then Ev d 60 48 L st μ Q else if x = iI 1 then Ev d 60 56 L st μ Q else if x = iI 2 then Ev d 60 67 L st μ Q else if x = iI 3 then Ev d 60 75 L st μ Q else if x = iI 4 then Ev d 60 83 L st μ Q else if x = iI 5 then Ev d 60 88 L st μ Q else if x = iI 6 then Ev d 60 96 L st μ Q else if x = iI 7 then Ev d 60 101 L st μ Q else Ev d 60 106 L st μ Q := by
  have hd : decode (bOf 60) 1 = .ok (.tableswitch 105 0 7 #[47, 55, 66, 74, 82, 87, 95, 100], 47) := by decide +kernel
  by_cases h0 : x = iI 0
  · rw [if_pos h0]; exact e_sw hd (sw_in (off := 47) h0 (by omega) (by omega) (by omega) rfl (by omega))
  rw [if_neg h0]
  by_cases h1 : x = iI 1
  · rw [if_pos h1]; exact e_sw hd (sw_in (off := 55) h1 (by omega) (by omega) (by omega) rfl (by omega))
  rw [if_neg h1]
  by_cases h2 : x = iI 2
  · rw [if_pos h2]; exact e_sw hd (sw_in (off := 66) h2 (by omega) (by omega) (by omega) rfl (by omega))
  rw [if_neg h2]
  by_cases h3 : x = iI 3
  · rw [if_pos h3]; exact e_sw hd (sw_in (off := 74) h3 (by omega) (by omega) (by omega) rfl (by omega))
  rw [if_neg h3]
  by_cases h4 : x = iI 4
  · rw [if_pos h4]; exact e_sw hd (sw_in (off := 82) h4 (by omega) (by omega) (by omega) rfl (by omega))
  rw [if_neg h4]
  by_cases h5 : x = iI 5
  · rw [if_pos h5]; exact e_sw hd (sw_in (off := 87) h5 (by omega) (by omega) (by omega) rfl (by omega))
  rw [if_neg h5]
  by_cases h6 : x = iI 6
  · rw [if_pos h6]; exact e_sw hd (sw_in (off := 95) h6 (by omega) (by omega) (by omega) rfl (by omega))
  rw [if_neg h6]
  by_cases h7 : x = iI 7
  · rw [if_pos h7]; exact e_sw hd (sw_in (off := 100) h7 (by omega) (by omega) (by omega) rfl (by omega))
  rw [if_neg h7]
  have g0 := ne_toInt h0
  have g1 := ne_toInt h1
  have g2 := ne_toInt h2
  have g3 := ne_toInt h3
  have g4 := ne_toInt h4
  have g5 := ne_toInt h5
  have g6 := ne_toInt h6
  have g7 := ne_toInt h7
  exact e_sw hd (sw_out (by omega) (by omega))
theorem x_60_48 : Ev d 60 48 (.ref r :: L) st μ Q = Ev d 60 49 (.ref r :: L) (.ref r :: st) μ Q := e_aload_n (by decide +kernel : decode (bOf 60) 48 = .ok (.aload_n 0, 1)) rfl
theorem x_60_49 (h : kd t r = 4) : Ev d 60 49 L (.ref r :: st) (t, V, A, P) Q = Ev d 60 52 L (V r 0 :: st) (t, V, A, P) Q := e_getf (by decide +kernel : decode (bOf 60) 49 = .ok (.getfield 12, 3)) (by decide +kernel) (by decide +kernel) h
theorem x_60_52 (h : kd t r = 3) : Ev d 60 52 L (.ref r :: st) (t, V, A, P) Q = Ev d 60 55 L (V r 3 :: st) (t, V, A, P) Q := e_getf (by decide +kernel : decode (bOf 60) 52 = .ok (.getfield 63, 3)) (by decide +kernel) (by decide +kernel) h
theorem x_60_55 : Ev d 60 55 L [.int x] μ Q = Q (some (.int x)) μ := e_iret (by decide +kernel : decode (bOf 60) 55 = .ok (.ireturn, 1)) (by decide +kernel)
theorem x_60_56 : Ev d 60 56 (.ref r :: L) st μ Q = Ev d 60 57 (.ref r :: L) (.ref r :: st) μ Q := e_aload_n (by decide +kernel : decode (bOf 60) 56 = .ok (.aload_n 0, 1)) rfl
theorem x_60_57 (h : kd t r = 4) : Ev d 60 57 L (.ref r :: st) (t, V, A, P) Q = Ev d 60 60 L (V r 0 :: st) (t, V, A, P) Q := e_getf (by decide +kernel : decode (bOf 60) 57 = .ok (.getfield 12, 3)) (by decide +kernel) (by decide +kernel) h
theorem x_60_60 (h : kd t r = 3) : Ev d 60 60 L (.ref r :: st) (t, V, A, P) Q = Ev d 60 63 L (V r 4 :: st) (t, V, A, P) Q := e_getf (by decide +kernel : decode (bOf 60) 60 = .ok (.getfield 199, 3)) (by decide +kernel) (by decide +kernel) h
theorem x_60_63 : Ev d 60 63 L [b0] μ Q = Call d 74 [b0] μ (fun v μ1 => Ev d 60 66 L (v.toList ++ []) μ1 Q) := e_callS (a := [b0]) (r := []) (by decide +kernel : decode (bOf 60) 63 = .ok (.invokestatic 147, 3)) (by decide +kernel) (by decide +kernel) (by omega) rfl (by simp)
theorem x_60_66 : Ev d 60 66 L [.int x] μ Q = Q (some (.int x)) μ := e_iret (by decide +kernel : decode (bOf 60) 66 = .ok (.ireturn, 1)) (by decide +kernel)
theorem x_60_67 : Ev d 60 67 (.ref r :: L) st μ Q = Ev d 60 68 (.ref r :: L) (.ref r :: st) μ Q := e_aload_n (by decide +kernel : decode (bOf 60) 67 = .ok (.aload_n 0, 1)) rfl
theorem x_60_68 (h : kd t r = 4) : Ev d 60 68 L (.ref r :: st) (t, V, A, P) Q = Ev d 60 71 L (V r 0 :: st) (t, V, A, P) Q := e_getf (by decide +kernel : decode (bOf 60) 68 = .ok (.getfield 12, 3)) (by decide +kernel) (by decide +kernel) h
theorem x_60_71 (h : kd t r = 3) : Ev d 60 71 L [.ref r] (t, V, A, P) Q = Call d 37 [.ref r] (t, V, A, P) (fun v μ1 => Ev d 60 74 L (v.toList ++ []) μ1 Q) := e_callV (a := []) (r := []) (by decide +kernel : decode (bOf 60) 71 = .ok (.invokevirtual 202, 3)) (by decide +kernel) (by decide +kernel) (by decide +kernel) (by omega) rfl (by simp) (by decide +kernel) h
theorem x_60_74 : Ev d 60 74 L [.int x] μ Q = Q (some (.int x)) μ := e_iret (by decide +kernel : decode (bOf 60) 74 = .ok (.ireturn, 1)) (by decide +kernel)
theorem x_60_75 : Ev d 60 75 (.ref r :: L) st μ Q = Ev d 60 76 (.ref r :: L) (.ref r :: st) μ Q := e_aload_n (by decide +kernel : decode (bOf 60) 75 = .ok (.aload_n 0, 1)) rfl
theorem x_60_76 (h : kd t r = 4) : Ev d 60 76 L (.ref r :: st) (t, V, A, P) Q = Ev d 60 79 L (V r 0 :: st) (t, V, A, P) Q := e_getf (by decide +kernel : decode (bOf 60) 76 = .ok (.getfield 12, 3)) (by decide +kernel) (by decide +kernel) h
theorem x_60_79 (h : kd t r = 3) : Ev d 60 79 L [.ref r] (t, V, A, P) Q = Call d 38 [.ref r] (t, V, A, P) (fun v μ1 => Ev d 60 82 L (v.toList ++ []) μ1 Q) := e_callV (a := []) (r := []) (by decide +kernel : decode (bOf 60) 79 = .ok (.invokevirtual 205, 3)) (by decide +kernel) (by decide +kernel) (by decide +kernel) (by omega) rfl (by simp) (by decide +kernel) h
theorem x_60_82 : Ev d 60 82 L [.int x] μ Q = Q (some (.int x)) μ := e_iret (by decide +kernel : decode (bOf 60) 82 = .ok (.ireturn, 1)) (by decide +kernel)
theorem x_60_83 : Ev d 60 83 (.ref r :: L) st μ Q = Ev d 60 84 (.ref r :: L) (.ref r :: st) μ Q := e_aload_n (by decide +kernel : decode (bOf 60) 83 = .ok (.aload_n 0, 1)) rfl
theorem x_60_84 (h : kd t r = 4) : Ev d 60 84 L [.ref r] (t, V, A, P) Q = Call d 64 [.ref r] (t, V, A, P) (fun v μ1 => Ev d 60 87 L (v.toList ++ []) μ1 Q) := e_callV (a := []) (r := []) (by decide +kernel : decode (bOf 60) 84 = .ok (.invokevirtual 208, 3)) (by decide +kernel) (by decide +kernel) (by decide +kernel) (by omega) rfl (by simp) (by decide +kernel) h
theorem x_60_87 : Ev d 60 87 L [.int x] μ Q = Q (some (.int x)) μ := e_iret (by decide +kernel : decode (bOf 60) 87 = .ok (.ireturn, 1)) (by decide +kernel)
theorem x_60_88 : Ev d 60 88 (.ref r :: L) st μ Q = Ev d 60 89 (.ref r :: L) (.ref r :: st) μ Q := e_aload_n (by decide +kernel : decode (bOf 60) 88 = .ok (.aload_n 0, 1)) rfl
theorem x_60_89 (h : kd t r = 4) : Ev d 60 89 L (.ref r :: st) (t, V, A, P) Q = Ev d 60 92 L (V r 0 :: st) (t, V, A, P) Q := e_getf (by decide +kernel : decode (bOf 60) 89 = .ok (.getfield 12, 3)) (by decide +kernel) (by decide +kernel) h
theorem x_60_92 (h : kd t r = 3) : Ev d 60 92 L [.ref r] (t, V, A, P) Q = Call d 39 [.ref r] (t, V, A, P) (fun v μ1 => Ev d 60 95 L (v.toList ++ []) μ1 Q) := e_callV (a := []) (r := []) (by decide +kernel : decode (bOf 60) 92 = .ok (.invokevirtual 211, 3)) (by decide +kernel) (by decide +kernel) (by decide +kernel) (by omega) rfl (by simp) (by decide +kernel) h
theorem x_60_95 : Ev d 60 95 L [.int x] μ Q = Q (some (.int x)) μ := e_iret (by decide +kernel : decode (bOf 60) 95 = .ok (.ireturn, 1)) (by decide +kernel)
theorem x_60_96 : Ev d 60 96 (.ref r :: L) st μ Q = Ev d 60 97 (.ref r :: L) (.ref r :: st) μ Q := e_aload_n (by decide +kernel : decode (bOf 60) 96 = .ok (.aload_n 0, 1)) rfl
theorem x_60_97 (h : kd t r = 4) : Ev d 60 97 L (.ref r :: st) (t, V, A, P) Q = Ev d 60 100 L (V r 9 :: st) (t, V, A, P) Q := e_getf (by decide +kernel : decode (bOf 60) 97 = .ok (.getfield 55, 3)) (by decide +kernel) (by decide +kernel) h
theorem x_60_100 : Ev d 60 100 L [.int x] μ Q = Q (some (.int x)) μ := e_iret (by decide +kernel : decode (bOf 60) 100 = .ok (.ireturn, 1)) (by decide +kernel)
theorem x_60_101 : Ev d 60 101 (.ref r :: L) st μ Q = Ev d 60 102 (.ref r :: L) (.ref r :: st) μ Q := e_aload_n (by decide +kernel : decode (bOf 60) 101 = .ok (.aload_n 0, 1)) rfl
theorem x_60_102 (h : kd t r = 4) : Ev d 60 102 L (.ref r :: st) (t, V, A, P) Q = Ev d 60 105 L (V r 11 :: st) (t, V, A, P) Q := e_getf (by decide +kernel : decode (bOf 60) 102 = .ok (.getfield 93, 3)) (by decide +kernel) (by decide +kernel) h
theorem x_60_105 : Ev d 60 105 L [.int x] μ Q = Q (some (.int x)) μ := e_iret (by decide +kernel : decode (bOf 60) 105 = .ok (.ireturn, 1)) (by decide +kernel)
theorem x_60_106 : Ev d 60 106 L st μ Q = Ev d 60 107 L (.int (iI (-1)) :: st) μ Q := e_iconst (by decide +kernel : decode (bOf 60) 106 = .ok (.iconst (-1), 1))
theorem x_60_107 : Ev d 60 107 L [.int x] μ Q = Q (some (.int x)) μ := e_iret (by decide +kernel : decode (bOf 60) 107 = .ok (.ireturn, 1)) (by decide +kernel)
theorem c_61 : Call (d + 1) 61 [.ref r0, .int i1] μ Q = Ev d 61 0 [.ref r0, .int i1] [] μ Q := call_ev rfl rfl 
theorem x_61_0 : Ev d 61 0 (.ref r :: L) st μ Q = Ev d 61 1 (.ref r :: L) (.ref r :: st) μ Q := e_aload_n (by decide +kernel : decode (bOf 61) 0 = .ok (.aload_n 0, 1)) rfl
theorem x_61_1 (h : kd t r = 4) : Ev d 61 1 L (.ref r :: st) (t, V, A, P) Q = Ev d 61 4 L (V r 0 :: st) (t, V, A, P) Q := e_getf (by decide +kernel : decode (bOf 61) 1 = .ok (.getfield 12, 3)) (by decide +kernel) (by decide +kernel) h
theorem x_61_4 (h : kd t r = 3) : Ev d 61 4 L (.ref r :: st) (t, V, A, P) Q = Ev d 61 7 L (V r 3 :: st) (t, V, A, P) Q := e_getf (by decide +kernel : decode (bOf 61) 4 = .ok (.getfield 63, 3)) (by decide +kernel) (by decide +kernel) h
theorem x_61_7 : Ev d 61 7 L st μ Q = Ev d 61 9 L (.int (iI 32) :: st) μ Q := e_bipush (by decide +kernel : decode (bOf 61) 7 = .ok (.bipush 32, 2)) (by decide +kernel)
theorem x_61_9 : Ev d 61 9 L (.int y :: .int x :: st) μ Q = if x < y then Ev d 61 15 L st μ Q else Ev d 61 12 L st μ Q := e_icmp_lt (by decide +kernel : decode (bOf 61) 9 = .ok (.if_icmp .lt 6, 3)) (by omega)
theorem x_61_12 : Ev d 61 12 L st μ Q = Ev d 61 14 L (.int (iI (-3)) :: st) μ Q := e_bipush (by decide +kernel : decode (bOf 61) 12 = .ok (.bipush (-3), 2)) (by decide +kernel)
theorem x_61_14 : Ev d 61 14 L [.int x] μ Q = Q (some (.int x)) μ := e_iret (by decide +kernel : decode (bOf 61) 14 = .ok (.ireturn, 1)) (by decide +kernel)
theorem x_61_15 : Ev d 61 15 (.ref r :: L) st μ Q = Ev d 61 16 (.ref r :: L) (.ref r :: st) μ Q := e_aload_n (by decide +kernel : decode (bOf 61) 15 = .ok (.aload_n 0, 1)) rfl
theorem x_61_16 (h : kd t r = 4) : Ev d 61 16 L [.ref r] (t, V, A, P) Q = Call d 62 [.ref r] (t, V, A, P) (fun v μ1 => Ev d 61 19 L (v.toList ++ []) μ1 Q) := e_callV (a := []) (r := []) (by decide +kernel : decode (bOf 61) 16 = .ok (.invokevirtual 69, 3)) (by decide +kernel) (by decide +kernel) (by decide +kernel) (by omega) rfl (by simp) (by decide +kernel) h
theorem x_61_19 : Ev d 61 19 (.ref r :: L) st μ Q = Ev d 61 20 (.ref r :: L) (.ref r :: st) μ Q := e_aload_n (by decide +kernel : decode (bOf 61) 19 = .ok (.aload_n 0, 1)) rfl
theorem x_61_20 (h : kd t r = 4) : Ev d 61 20 L (.ref r :: st) (t, V, A, P) Q = Ev d 61 23 L (V r 0 :: st) (t, V, A, P) Q := e_getf (by decide +kernel : decode (bOf 61) 20 = .ok (.getfield 12, 3)) (by decide +kernel) (by decide +kernel) h
theorem x_61_23 : Ev d 61 23 (a0 :: .int x :: L) st μ Q = Ev d 61 24 (a0 :: .int x :: L) (.int x :: st) μ Q := e_iload_n (by decide +kernel : decode (bOf 61) 23 = .ok (.iload_n 1, 1)) rfl
theorem x_61_24 (h : kd t r = 3) : Ev d 61 24 L [b0, .ref r] (t, V, A, P) Q = Call d 29 [.ref r, b0] (t, V, A, P) (fun v μ1 => Ev d 61 27 L (v.toList ++ []) μ1 Q) := e_callV (a := [b0]) (r := []) (by decide +kernel : decode (bOf 61) 24 = .ok (.invokevirtual 72, 3)) (by decide +kernel) (by decide +kernel) (by decide +kernel) (by omega) rfl (by simp) (by decide +kernel) h
theorem x_61_27 : Ev d 61 27 L [.int x] μ Q = Q (some (.int x)) μ := e_iret (by decide +kernel : decode (bOf 61) 27 = .ok (.ireturn, 1)) (by decide +kernel)
theorem c_62 : Call (d + 1) 62 [.ref r0] μ Q = Ev d 62 0 [.ref r0] [] μ Q := call_ev rfl rfl 
theorem x_62_0 : Ev d 62 0 (.ref r :: L) st μ Q = Ev d 62 1 (.ref r :: L) (.ref r :: st) μ Q := e_aload_n (by decide +kernel : decode (bOf 62) 0 = .ok (.aload_n 0, 1)) rfl
theorem x_62_1 (h : kd t r = 4) : Ev d 62 1 L (.ref r :: st) (t, V, A, P) Q = Ev d 62 4 L (V r 11 :: st) (t, V, A, P) Q := e_getf (by decide +kernel : decode (bOf 62) 1 = .ok (.getfield 93, 3)) (by decide +kernel) (by decide +kernel) h
theorem x_62_4 : Ev d 62 4 L st μ Q = Ev d 62 6 L (.int (iI 6) :: st) μ Q := e_bipush (by decide +kernel : decode (bOf 62) 4 = .ok (.bipush 6, 2)) (by decide +kernel)
theorem x_62_6 : Ev d 62 6 L (.int y :: .int x :: st) μ Q = if x < y then Ev d 62 13 L st μ Q else Ev d 62 9 L st μ Q := e_icmp_lt (by decide +kernel : decode (bOf 62) 6 = .ok (.if_icmp .lt 7, 3)) (by omega)
theorem x_62_9 : Ev d 62 9 (.ref r :: L) st μ Q = Ev d 62 10 (.ref r :: L) (.ref r :: st) μ Q := e_aload_n (by decide +kernel : decode (bOf 62) 9 = .ok (.aload_n 0, 1)) rfl
theorem x_62_10 (h : kd t r = 4) : Ev d 62 10 L [.ref r] (t, V, A, P) Q = Call d 63 [.ref r] (t, V, A, P) (fun v μ1 => Ev d 62 13 L (v.toList ++ []) μ1 Q) := e_callV (a := []) (r := []) (by decide +kernel : decode (bOf 62) 10 = .ok (.invokevirtual 214, 3)) (by decide +kernel) (by decide +kernel) (by decide +kernel) (by omega) rfl (by simp) (by decide +kernel) h
theorem x_62_13 : Ev d 62 13 (.ref r :: L) st μ Q = Ev d 62 14 (.ref r :: L) (.ref r :: st) μ Q := e_aload_n (by decide +kernel : decode (bOf 62) 13 = .ok (.aload_n 0, 1)) rfl
theorem x_62_14 (h : kd t r = 4) : Ev d 62 14 L (.ref r :: st) (t, V, A, P) Q = Ev d 62 17 L (V r 11 :: st) (t, V, A, P) Q := e_getf (by decide +kernel : decode (bOf 62) 14 = .ok (.getfield 93, 3)) (by decide +kernel) (by decide +kernel) h
theorem x_62_17 : Ev d 62 17 L (.int x :: st) μ Q = if x < iI 0 then Ev d 62 29 L st μ Q else Ev d 62 20 L st μ Q := e_if_lt (by decide +kernel : decode (bOf 62) 17 = .ok (.ifCond .lt 12, 3)) (by omega)
theorem x_62_20 : Ev d 62 20 (.ref r :: L) st μ Q = Ev d 62 21 (.ref r :: L) (.ref r :: st) μ Q := e_aload_n (by decide +kernel : decode (bOf 62) 20 = .ok (.aload_n 0, 1)) rfl
theorem x_62_21 (h : kd t r = 4) : Ev d 62 21 L (.ref r :: st) (t, V, A, P) Q = Ev d 62 24 L (V r 11 :: st) (t, V, A, P) Q := e_getf (by decide +kernel : decode (bOf 62) 21 = .ok (.getfield 93, 3)) (by decide +kernel) (by decide +kernel) h
theorem x_62_24 : Ev d 62 24 L st μ Q = Ev d 62 26 L (.int (iI 6) :: st) μ Q := e_bipush (by decide +kernel : decode (bOf 62) 24 = .ok (.bipush 6, 2)) (by decide +kernel)
theorem x_62_26 : Ev d 62 26 L (.int y :: .int x :: st) μ Q = if x < y then Ev d 62 30 L st μ Q else Ev d 62 29 L st μ Q := e_icmp_lt (by decide +kernel : decode (bOf 62) 26 = .ok (.if_icmp .lt 4, 3)) (by omega)
theorem x_62_29 : Ev d 62 29 L [] μ Q = Q none μ := e_ret (by decide +kernel : decode (bOf 62) 29 = .ok (.return_, 1)) (by decide +kernel)
theorem x_62_30 : Ev d 62 30 (.ref r :: L) st μ Q = Ev d 62 31 (.ref r :: L) (.ref r :: st) μ Q := e_aload_n (by decide +kernel : decode (bOf 62) 30 = .ok (.aload_n 0, 1)) rfl
theorem x_62_31 (h : kd t r = 4) : Ev d 62 31 L (.ref r :: st) (t, V, A, P) Q = Ev d 62 34 L (V r 0 :: st) (t, V, A, P) Q := e_getf (by decide +kernel : decode (bOf 62) 31 = .ok (.getfield 12, 3)) (by decide +kernel) (by decide +kernel) h
theorem x_62_34 : Ev d 62 34 (.ref r :: L) st μ Q = Ev d 62 35 (.ref r :: L) (.ref r :: st) μ Q := e_aload_n (by decide +kernel : decode (bOf 62) 34 = .ok (.aload_n 0, 1)) rfl
theorem x_62_35 (h : kd t r = 4) : Ev d 62 35 L (.ref r :: st) (t, V, A, P) Q = Ev d 62 38 L (V r 1 :: st) (t, V, A, P) Q := e_getf (by decide +kernel : decode (bOf 62) 35 = .ok (.getfield 16, 3)) (by decide +kernel) (by decide +kernel) h
theorem x_62_38 : Ev d 62 38 (.ref r :: L) st μ Q = Ev d 62 39 (.ref r :: L) (.ref r :: st) μ Q := e_aload_n (by decide +kernel : decode (bOf 62) 38 = .ok (.aload_n 0, 1)) rfl
theorem x_62_39 (h : kd t r = 4) : Ev d 62 39 L (.ref r :: st) (t, V, A, P) Q = Ev d 62 42 L (V r 11 :: st) (t, V, A, P) Q := e_getf (by decide +kernel : decode (bOf 62) 39 = .ok (.getfield 93, 3)) (by decide +kernel) (by decide +kernel) h
theorem x_62_42 (h : kd t r = 9) (hi : inB x (ln t r) = true) : Ev d 62 42 L (.int x :: .ref r :: st) (t, V, A, P) Q = Ev d 62 43 L (va_rf (P r x.toNatClampNeg) :: st) (t, V, A, P) Q := e_aald 9 (by omega) (by decide +kernel : decode (bOf 62) 42 = .ok (.aaload, 1)) h hi
theorem x_62_43 : Ev d 62 43 L [b1, b0] μ Q = Call d 28 [b0, b1] μ (fun v μ1 => Ev d 62 46 L (v.toList ++ []) μ1 Q) := e_callS (a := [b0, b1]) (r := []) (by decide +kernel : decode (bOf 62) 43 = .ok (.invokestatic 96, 3)) (by decide +kernel) (by decide +kernel) (by omega) rfl (by simp)
theorem x_62_46 : Ev d 62 46 (.ref r :: L) st μ Q = Ev d 62 47 (.ref r :: L) (.ref r :: st) μ Q := e_aload_n (by decide +kernel : decode (bOf 62) 46 = .ok (.aload_n 0, 1)) rfl
theorem x_62_47 : Ev d 62 47 L (.ref r :: st) μ Q = Ev d 62 48 L (.ref r :: .ref r :: st) μ Q := e_dup_a (by decide +kernel : decode (bOf 62) 47 = .ok (.dup, 1))
theorem x_62_48 (h : kd t r = 4) : Ev d 62 48 L (.ref r :: st) (t, V, A, P) Q = Ev d 62 51 L (V r 11 :: st) (t, V, A, P) Q := e_getf (by decide +kernel : decode (bOf 62) 48 = .ok (.getfield 93, 3)) (by decide +kernel) (by decide +kernel) h
theorem x_62_51 : Ev d 62 51 L st μ Q = Ev d 62 52 L (.int (iI 1) :: st) μ Q := e_iconst (by decide +kernel : decode (bOf 62) 51 = .ok (.iconst 1, 1))
theorem x_62_52 : Ev d 62 52 L (.int y :: .int x :: st) μ Q = Ev d 62 53 L (.int (x + y) :: st) μ Q := e_iadd (by decide +kernel : decode (bOf 62) 52 = .ok (.iadd, 1))
theorem x_62_53 (h : kd t r = 4) : Ev d 62 53 L (.int x :: .ref r :: st) (t, V, A, P) Q = Ev d 62 56 L st (t, up1 V r (up1 (V r) 11 (.int x)), A, P) Q := e_putf (by decide +kernel : decode (bOf 62) 53 = .ok (.putfield 93, 3)) (by decide +kernel) (by decide +kernel) rfl h
theorem x_62_56 : Ev d 62 56 L [] μ Q = Q none μ := e_ret (by decide +kernel : decode (bOf 62) 56 = .ok (.return_, 1)) (by decide +kernel)
theorem c_63 : Call (d + 1) 63 [.ref r0] μ Q = Ev d 63 0 [.ref r0, .null, .null] [] μ Q := call_ev rfl rfl 
theorem x_63_0 : Ev d 63 0 (.ref r :: L) st μ Q = Ev d 63 1 (.ref r :: L) (.ref r :: st) μ Q := e_aload_n (by decide +kernel : decode (bOf 63) 0 = .ok (.aload_n 0, 1)) rfl
theorem x_63_1 (h : kd t r = 4) : Ev d 63 1 L (.ref r :: st) (t, V, A, P) Q = Ev d 63 4 L (V r 1 :: st) (t, V, A, P) Q := e_getf (by decide +kernel : decode (bOf 63) 1 = .ok (.getfield 16, 3)) (by decide +kernel) (by decide +kernel) h
theorem x_63_4 : Ev d 63 4 L st μ Q = Ev d 63 5 L (.int (iI 0) :: st) μ Q := e_iconst (by decide +kernel : decode (bOf 63) 4 = .ok (.iconst 0, 1))
theorem x_63_5 (h : kd t r = 9) (hi : inB x (ln t r) = true) : Ev d 63 5 L (.int x :: .ref r :: st) (t, V, A, P) Q = Ev d 63 6 L (va_rf (P r x.toNatClampNeg) :: st) (t, V, A, P) Q := e_aald 9 (by omega) (by decide +kernel : decode (bOf 63) 5 = .ok (.aaload, 1)) h hi
theorem x_63_6 (h : a0.category = 1) : Ev d 63 6 (a0 :: a1 :: L) (.ref r :: st) μ Q = Ev d 63 7 (a0 :: .ref r :: L) st μ Q := e_astore_n (by decide +kernel : decode (bOf 63) 6 = .ok (.astore_n 1, 1)) (by show stOK _ 1 = true; simp [stOK, h])
theorem x_63_7 : Ev d 63 7 L st μ Q = Ev d 63 8 L (.int (iI 1) :: st) μ Q := e_iconst (by decide +kernel : decode (bOf 63) 7 = .ok (.iconst 1, 1))
theorem x_63_8 (h : a1.category = 1) : Ev d 63 8 (a0 :: a1 :: a2 :: L) (.int x :: st) μ Q = Ev d 63 9 (a0 :: a1 :: .int x :: L) st μ Q := e_istore_n (by decide +kernel : decode (bOf 63) 8 = .ok (.istore_n 2, 1)) (by show stOK _ 2 = true; simp [stOK, h])
theorem x_63_9 : Ev d 63 9 (a0 :: a1 :: .int x :: L) st μ Q = Ev d 63 10 (a0 :: a1 :: .int x :: L) (.int x :: st) μ Q := e_iload_n (by decide +kernel : decode (bOf 63) 9 = .ok (.iload_n 2, 1)) rfl
theorem x_63_10 : Ev d 63 10 L st μ Q = Ev d 63 12 L (.int (iI 6) :: st) μ Q := e_bipush (by decide +kernel : decode (bOf 63) 10 = .ok (.bipush 6, 2)) (by decide +kernel)
theorem x_63_12 : Ev d 63 12 L (.int y :: .int x :: st) μ Q = if x < y then Ev d 63 15 L st μ Q else Ev d 63 35 L st μ Q := e_icmp_ge (by decide +kernel : decode (bOf 63) 12 = .ok (.if_icmp .ge 23, 3)) (by omega)
theorem x_63_15 : Ev d 63 15 (.ref r :: L) st μ Q = Ev d 63 16 (.ref r :: L) (.ref r :: st) μ Q := e_aload_n (by decide +kernel : decode (bOf 63) 15 = .ok (.aload_n 0, 1)) rfl
theorem x_63_16 (h : kd t r = 4) : Ev d 63 16 L (.ref r :: st) (t, V, A, P) Q = Ev d 63 19 L (V r 1 :: st) (t, V, A, P) Q := e_getf (by decide +kernel : decode (bOf 63) 16 = .ok (.getfield 16, 3)) (by decide +kernel) (by decide +kernel) h
theorem x_63_19 : Ev d 63 19 (a0 :: a1 :: .int x :: L) st μ Q = Ev d 63 20 (a0 :: a1 :: .int x :: L) (.int x :: st) μ Q := e_iload_n (by decide +kernel : decode (bOf 63) 19 = .ok (.iload_n 2, 1)) rfl
theorem x_63_20 : Ev d 63 20 L st μ Q = Ev d 63 21 L (.int (iI 1) :: st) μ Q := e_iconst (by decide +kernel : decode (bOf 63) 20 = .ok (.iconst 1, 1))
theorem x_63_21 : Ev d 63 21 L (.int y :: .int x :: st) μ Q = Ev d 63 22 L (.int (x - y) :: st) μ Q := e_isub (by decide +kernel : decode (bOf 63) 21 = .ok (.isub, 1))
theorem x_63_22 : Ev d 63 22 (.ref r :: L) st μ Q = Ev d 63 23 (.ref r :: L) (.ref r :: st) μ Q := e_aload_n (by decide +kernel : decode (bOf 63) 22 = .ok (.aload_n 0, 1)) rfl
theorem x_63_23 (h : kd t r = 4) : Ev d 63 23 L (.ref r :: st) (t, V, A, P) Q = Ev d 63 26 L (V r 1 :: st) (t, V, A, P) Q := e_getf (by decide +kernel : decode (bOf 63) 23 = .ok (.getfield 16, 3)) (by decide +kernel) (by decide +kernel) h
theorem x_63_26 : Ev d 63 26 (a0 :: a1 :: .int x :: L) st μ Q = Ev d 63 27 (a0 :: a1 :: .int x :: L) (.int x :: st) μ Q := e_iload_n (by decide +kernel : decode (bOf 63) 26 = .ok (.iload_n 2, 1)) rfl
theorem x_63_27 (h : kd t r = 9) (hi : inB x (ln t r) = true) : Ev d 63 27 L (.int x :: .ref r :: st) (t, V, A, P) Q = Ev d 63 28 L (va_rf (P r x.toNatClampNeg) :: st) (t, V, A, P) Q := e_aald 9 (by omega) (by decide +kernel : decode (bOf 63) 27 = .ok (.aaload, 1)) h hi
theorem x_63_28 (h : kd t r = 9) (hv : kd t q = 3) (hi : inB x (ln t r) = true) : Ev d 63 28 L (.ref q :: .int x :: .ref r :: st) (t, V, A, P) Q = Ev d 63 29 L st (t, V, A, up1 P r (up1 (P r) x.toNatClampNeg (some q))) Q := e_aast9 (by decide +kernel : decode (bOf 63) 28 = .ok (.aastore, 1)) h hv hi
theorem x_63_29 (h : a1.category = 1) : Ev d 63 29 (a0 :: a1 :: .int x :: L) st μ Q = Ev d 63 32 (a0 :: a1 :: .int (x + (iI 1)) :: L) st μ Q := e_iinc (by decide +kernel : decode (bOf 63) 29 = .ok (.iinc 2 1, 3)) rfl (by simp [stOK, h])
theorem x_63_32 : Ev d 63 32 L st μ Q = Ev d 63 9 L st μ Q := e_goto (by decide +kernel : decode (bOf 63) 32 = .ok (.goto (-23), 3)) (by omega)
theorem x_63_35 : Ev d 63 35 (.ref r :: L) st μ Q = Ev d 63 36 (.ref r :: L) (.ref r :: st) μ Q := e_aload_n (by decide +kernel : decode (bOf 63) 35 = .ok (.aload_n 0, 1)) rfl
theorem x_63_36 (h : kd t r = 4) : Ev d 63 36 L (.ref r :: st) (t, V, A, P) Q = Ev d 63 39 L (V r 1 :: st) (t, V, A, P) Q := e_getf (by decide +kernel : decode (bOf 63) 36 = .ok (.getfield 16, 3)) (by decide +kernel) (by decide +kernel) h
theorem x_63_39 : Ev d 63 39 L st μ Q = Ev d 63 40 L (.int (iI 5) :: st) μ Q := e_iconst (by decide +kernel : decode (bOf 63) 39 = .ok (.iconst 5, 1))
theorem x_63_40 : Ev d 63 40 (a0 :: .ref r :: L) st μ Q = Ev d 63 41 (a0 :: .ref r :: L) (.ref r :: st) μ Q := e_aload_n (by decide +kernel : decode (bOf 63) 40 = .ok (.aload_n 1, 1)) rfl
theorem x_63_41 (h : kd t r = 9) (hv : kd t q = 3) (hi : inB x (ln t r) = true) : Ev d 63 41 L (.ref q :: .int x :: .ref r :: st) (t, V, A, P) Q = Ev d 63 42 L st (t, V, A, up1 P r (up1 (P r) x.toNatClampNeg (some q))) Q := e_aast9 (by decide +kernel : decode (bOf 63) 41 = .ok (.aastore, 1)) h hv hi
theorem x_63_42 : Ev d 63 42 (.ref r :: L) st μ Q = Ev d 63 43 (.ref r :: L) (.ref r :: st) μ Q := e_aload_n (by decide +kernel : decode (bOf 63) 42 = .ok (.aload_n 0, 1)) rfl
theorem x_63_43 : Ev d 63 43 L st μ Q = Ev d 63 44 L (.int (iI 5) :: st) μ Q := e_iconst (by decide +kernel : decode (bOf 63) 43 = .ok (.iconst 5, 1))
theorem x_63_44 (h : kd t r = 4) : Ev d 63 44 L (.int x :: .ref r :: st) (t, V, A, P) Q = Ev d 63 47 L st (t, up1 V r (up1 (V r) 11 (.int x)), A, P) Q := e_putf (by decide +kernel : decode (bOf 63) 44 = .ok (.putfield 93, 3)) (by decide +kernel) (by decide +kernel) rfl h
theorem x_63_47 : Ev d 63 47 L [] μ Q = Q none μ := e_ret (by decide +kernel : decode (bOf 63) 47 = .ok (.return_, 1)) (by decide +kernel)
theorem c_64 : Call (d + 1) 64 [.ref r0] μ Q = Ev d 64 0 [.ref r0, .null] [] μ Q := call_ev rfl rfl 
theorem x_64_0 : Ev d 64 0 (.ref r :: L) st μ Q = Ev d 64 1 (.ref r :: L) (.ref r :: st) μ Q := e_aload_n (by decide +kernel : decode (bOf 64) 0 = .ok (.aload_n 0, 1)) rfl
theorem x_64_1 (h : kd t r = 4) : Ev d 64 1 L (.ref r :: st) (t, V, A, P) Q = Ev d 64 4 L (V r 8 :: st) (t, V, A, P) Q := e_getf (by decide +kernel : decode (bOf 64) 1 = .ok (.getfield 51, 3)) (by decide +kernel) (by decide +kernel) h
theorem x_64_4 : Ev d 64 4 L st μ Q = Ev d 64 5 L (.int (iI (-1)) :: st) μ Q := e_iconst (by decide +kernel : decode (bOf 64) 4 = .ok (.iconst (-1), 1))
theorem x_64_5 (h : kd t r = 2) : Ev d 64 5 L [b0, .ref r] (t, V, A, P) Q = Call d 21 [.ref r, b0] (t, V, A, P) (fun v μ1 => Ev d 64 8 L (v.toList ++ []) μ1 Q) := e_callV (a := [b0]) (r := []) (by decide +kernel : decode (bOf 64) 5 = .ok (.invokevirtual 173, 3)) (by decide +kernel) (by decide +kernel) (by decide +kernel) (by omega) rfl (by simp) (by decide +kernel) h
theorem x_64_8 : Ev d 64 8 L st μ Q = Ev d 64 9 L (.int (iI 0) :: st) μ Q := e_iconst (by decide +kernel : decode (bOf 64) 8 = .ok (.iconst 0, 1))
theorem x_64_9 (h : a0.category = 1) : Ev d 64 9 (a0 :: a1 :: L) (.int x :: st) μ Q = Ev d 64 10 (a0 :: .int x :: L) st μ Q := e_istore_n (by decide +kernel : decode (bOf 64) 9 = .ok (.istore_n 1, 1)) (by show stOK _ 1 = true; simp [stOK, h])
theorem x_64_10 : Ev d 64 10 (a0 :: .int x :: L) st μ Q = Ev d 64 11 (a0 :: .int x :: L) (.int x :: st) μ Q := e_iload_n (by decide +kernel : decode (bOf 64) 10 = .ok (.iload_n 1, 1)) rfl
theorem x_64_11 : Ev d 64 11 (.ref r :: L) st μ Q = Ev d 64 12 (.ref r :: L) (.ref r :: st) μ Q := e_aload_n (by decide +kernel : decode (bOf 64) 11 = .ok (.aload_n 0, 1)) rfl
theorem x_64_12 (h : kd t r = 4) : Ev d 64 12 L (.ref r :: st) (t, V, A, P) Q = Ev d 64 15 L (V r 0 :: st) (t, V, A, P) Q := e_getf (by decide +kernel : decode (bOf 64) 12 = .ok (.getfield 12, 3)) (by decide +kernel) (by decide +kernel) h
theorem x_64_15 (h : kd t r = 3) : Ev d 64 15 L [.ref r, s0] (t, V, A, P) Q = Call d 32 [.ref r] (t, V, A, P) (fun v μ1 => Ev d 64 18 L (v.toList ++ [s0]) μ1 Q) := e_callV (a := []) (r := [s0]) (by decide +kernel : decode (bOf 64) 15 = .ok (.invokevirtual 176, 3)) (by decide +kernel) (by decide +kernel) (by decide +kernel) (by omega) rfl (by simp) (by decide +kernel) h
theorem x_64_18 : Ev d 64 18 L (.int y :: .int x :: st) μ Q = if x < y then Ev d 64 21 L st μ Q else Ev d 64 42 L st μ Q := e_icmp_ge (by decide +kernel : decode (bOf 64) 18 = .ok (.if_icmp .ge 24, 3)) (by omega)
theorem x_64_21 : Ev d 64 21 (.ref r :: L) st μ Q = Ev d 64 22 (.ref r :: L) (.ref r :: st) μ Q := e_aload_n (by decide +kernel : decode (bOf 64) 21 = .ok (.aload_n 0, 1)) rfl
theorem x_64_22 (h : kd t r = 4) : Ev d 64 22 L (.ref r :: st) (t, V, A, P) Q = Ev d 64 25 L (V r 8 :: st) (t, V, A, P) Q := e_getf (by decide +kernel : decode (bOf 64) 22 = .ok (.getfield 51, 3)) (by decide +kernel) (by decide +kernel) h
theorem x_64_25 : Ev d 64 25 (.ref r :: L) st μ Q = Ev d 64 26 (.ref r :: L) (.ref r :: st) μ Q := e_aload_n (by decide +kernel : decode (bOf 64) 25 = .ok (.aload_n 0, 1)) rfl
theorem x_64_26 (h : kd t r = 4) : Ev d 64 26 L (.ref r :: st) (t, V, A, P) Q = Ev d 64 29 L (V r 0 :: st) (t, V, A, P) Q := e_getf (by decide +kernel : decode (bOf 64) 26 = .ok (.getfield 12, 3)) (by decide +kernel) (by decide +kernel) h
theorem x_64_29 : Ev d 64 29 (a0 :: .int x :: L) st μ Q = Ev d 64 30 (a0 :: .int x :: L) (.int x :: st) μ Q := e_iload_n (by decide +kernel : decode (bOf 64) 29 = .ok (.iload_n 1, 1)) rfl
theorem x_64_30 (h : kd t r = 3) : Ev d 64 30 L [b0, .ref r, s0] (t, V, A, P) Q = Call d 34 [.ref r, b0] (t, V, A, P) (fun v μ1 => Ev d 64 33 L (v.toList ++ [s0]) μ1 Q) := e_callV (a := [b0]) (r := [s0]) (by decide +kernel : decode (bOf 64) 30 = .ok (.invokevirtual 87, 3)) (by decide +kernel) (by decide +kernel) (by decide +kernel) (by omega) rfl (by simp) (by decide +kernel) h
theorem x_64_33 (h : kd t r = 2) : Ev d 64 33 L [b0, .ref r] (t, V, A, P) Q = Call d 23 [.ref r, b0] (t, V, A, P) (fun v μ1 => Ev d 64 36 L (v.toList ++ []) μ1 Q) := e_callV (a := [b0]) (r := []) (by decide +kernel : decode (bOf 64) 33 = .ok (.invokevirtual 179, 3)) (by decide +kernel) (by decide +kernel) (by decide +kernel) (by omega) rfl (by simp) (by decide +kernel) h
theorem x_64_36 (h : a0.category = 1) : Ev d 64 36 (a0 :: .int x :: L) st μ Q = Ev d 64 39 (a0 :: .int (x + (iI 1)) :: L) st μ Q := e_iinc (by decide +kernel : decode (bOf 64) 36 = .ok (.iinc 1 1, 3)) rfl (by simp [stOK, h])
theorem x_64_39 : Ev d 64 39 L st μ Q = Ev d 64 10 L st μ Q := e_goto (by decide +kernel : decode (bOf 64) 39 = .ok (.goto (-29), 3)) (by omega)
theorem x_64_42 : Ev d 64 42 (.ref r :: L) st μ Q = Ev d 64 43 (.ref r :: L) (.ref r :: st) μ Q := e_aload_n (by decide +kernel : decode (bOf 64) 42 = .ok (.aload_n 0, 1)) rfl
theorem x_64_43 (h : kd t r = 4) : Ev d 64 43 L (.ref r :: st) (t, V, A, P) Q = Ev d 64 46 L (V r 8 :: st) (t, V, A, P) Q := e_getf (by decide +kernel : decode (bOf 64) 43 = .ok (.getfield 51, 3)) (by decide +kernel) (by decide +kernel) h
theorem x_64_46 (h : kd t r = 2) : Ev d 64 46 L (.ref r :: st) (t, V, A, P) Q = Ev d 64 49 L (V r 4 :: st) (t, V, A, P) Q := e_getf (by decide +kernel : decode (bOf 64) 46 = .ok (.getfield 217, 3)) (by decide +kernel) (by decide +kernel) h
theorem x_64_49 : Ev d 64 49 L [.int x] μ Q = Q (some (.int x)) μ := e_iret (by decide +kernel : decode (bOf 64) 49 = .ok (.ireturn, 1)) (by decide +kernel)
theorem c_65 : Call (d + 1) 65 [.ref r0] μ Q = Ev d 65 0 [.ref r0, .null, .null] [] μ Q := call_ev rfl rfl 
theorem x_65_0 : Ev d 65 0 L st μ Q = Ev d 65 1 L (.int (iI 0) :: st) μ Q := e_iconst (by decide +kernel : decode (bOf 65) 0 = .ok (.iconst 0, 1))
theorem x_65_1 (h : a0.category = 1) : Ev d 65 1 (a0 :: a1 :: L) (.int x :: st) μ Q = Ev d 65 2 (a0 :: .int x :: L) st μ Q := e_istore_n (by decide +kernel : decode (bOf 65) 1 = .ok (.istore_n 1, 1)) (by show stOK _ 1 = true; simp [stOK, h])
theorem x_65_2 : Ev d 65 2 (.ref r :: L) st μ Q = Ev d 65 3 (.ref r :: L) (.ref r :: st) μ Q := e_aload_n (by decide +kernel : decode (bOf 65) 2 = .ok (.aload_n 0, 1)) rfl
theorem x_65_3 : Ev d 65 3 L st μ Q = Ev d 65 4 L (.int (iI 0) :: st) μ Q := e_iconst (by decide +kernel : decode (bOf 65) 3 = .ok (.iconst 0, 1))
theorem x_65_4 (h : kd t r = 4) : Ev d 65 4 L (.int x :: .ref r :: st) (t, V, A, P) Q = Ev d 65 7 L st (t, up1 V r (up1 (V r) 10 (.int x)), A, P) Q := e_putf (by decide +kernel : decode (bOf 65) 4 = .ok (.putfield 66, 3)) (by decide +kernel) (by decide +kernel) rfl h
theorem x_65_7 : Ev d 65 7 L st μ Q = Ev d 65 8 L (.int (iI 0) :: st) μ Q := e_iconst (by decide +kernel : decode (bOf 65) 7 = .ok (.iconst 0, 1))
theorem x_65_8 (h : a1.category = 1) : Ev d 65 8 (a0 :: a1 :: a2 :: L) (.int x :: st) μ Q = Ev d 65 9 (a0 :: a1 :: .int x :: L) st μ Q := e_istore_n (by decide +kernel : decode (bOf 65) 8 = .ok (.istore_n 2, 1)) (by show stOK _ 2 = true; simp [stOK, h])
theorem x_65_9 : Ev d 65 9 (a0 :: a1 :: .int x :: L) st μ Q = Ev d 65 10 (a0 :: a1 :: .int x :: L) (.int x :: st) μ Q := e_iload_n (by decide +kernel : decode (bOf 65) 9 = .ok (.iload_n 2, 1)) rfl
theorem x_65_10 : Ev d 65 10 (.ref r :: L) st μ Q = Ev d 65 11 (.ref r :: L) (.ref r :: st) μ Q := e_aload_n (by decide +kernel : decode (bOf 65) 10 = .ok (.aload_n 0, 1)) rfl
theorem x_65_11 (h : kd t r = 4) : Ev d 65 11 L (.ref r :: st) (t, V, A, P) Q = Ev d 65 14 L (V r 9 :: st) (t, V, A, P) Q := e_getf (by decide +kernel : decode (bOf 65) 11 = .ok (.getfield 55, 3)) (by decide +kernel) (by decide +kernel) h
theorem x_65_14 : Ev d 65 14 L (.int y :: .int x :: st) μ Q = if x < y then Ev d 65 17 L st μ Q else Ev d 65 45 L st μ Q := e_icmp_ge (by decide +kernel : decode (bOf 65) 14 = .ok (.if_icmp .ge 31, 3)) (by omega)
theorem x_65_17 : Ev d 65 17 (.ref r :: L) st μ Q = Ev d 65 18 (.ref r :: L) (.ref r :: st) μ Q := e_aload_n (by decide +kernel : decode (bOf 65) 17 = .ok (.aload_n 0, 1)) rfl
theorem x_65_18 : Ev d 65 18 (a0 :: a1 :: .int x :: L) st μ Q = Ev d 65 19 (a0 :: a1 :: .int x :: L) (.int x :: st) μ Q := e_iload_n (by decide +kernel : decode (bOf 65) 18 = .ok (.iload_n 2, 1)) rfl
theorem x_65_19 (h : kd t r = 4) : Ev d 65 19 L [b0, .ref r] (t, V, A, P) Q = Call d 66 [.ref r, b0] (t, V, A, P) (fun v μ1 => Ev d 65 22 L (v.toList ++ []) μ1 Q) := e_callV (a := [b0]) (r := []) (by decide +kernel : decode (bOf 65) 19 = .ok (.invokevirtual 220, 3)) (by decide +kernel) (by decide +kernel) (by decide +kernel) (by omega) rfl (by simp) (by decide +kernel) h
theorem x_65_22 : Ev d 65 22 L (.int x :: st) μ Q = if x = iI 0 then Ev d 65 39 L st μ Q else Ev d 65 25 L st μ Q := e_if_eq (by decide +kernel : decode (bOf 65) 22 = .ok (.ifCond .eq 17, 3)) (by omega)
theorem x_65_25 : Ev d 65 25 (.ref r :: L) st μ Q = Ev d 65 26 (.ref r :: L) (.ref r :: st) μ Q := e_aload_n (by decide +kernel : decode (bOf 65) 25 = .ok (.aload_n 0, 1)) rfl
theorem x_65_26 : Ev d 65 26 (a0 :: .int x :: L) st μ Q = Ev d 65 27 (a0 :: .int x :: L) (.int x :: st) μ Q := e_iload_n (by decide +kernel : decode (bOf 65) 26 = .ok (.iload_n 1, 1)) rfl
theorem x_65_27 : Ev d 65 27 (a0 :: a1 :: .int x :: L) st μ Q = Ev d 65 28 (a0 :: a1 :: .int x :: L) (.int x :: st) μ Q := e_iload_n (by decide +kernel : decode (bOf 65) 27 = .ok (.iload_n 2, 1)) rfl
theorem x_65_28 (h : kd t r = 4) : Ev d 65 28 L [b1, b0, .ref r] (t, V, A, P) Q = Call d 67 [.ref r, b0, b1] (t, V, A, P) (fun v μ1 => Ev d 65 31 L (v.toList ++ []) μ1 Q) := e_callV (a := [b0, b1]) (r := []) (by decide +kernel : decode (bOf 65) 28 = .ok (.invokevirtual 223, 3)) (by decide +kernel) (by decide +kernel) (by decide +kernel) (by omega) rfl (by simp) (by decide +kernel) h
theorem x_65_31 (h : a0.category = 1) : Ev d 65 31 (a0 :: a1 :: L) (.int x :: st) μ Q = Ev d 65 32 (a0 :: .int x :: L) st μ Q := e_istore_n (by decide +kernel : decode (bOf 65) 31 = .ok (.istore_n 1, 1)) (by show stOK _ 1 = true; simp [stOK, h])
theorem x_65_32 : Ev d 65 32 (a0 :: .int x :: L) st μ Q = Ev d 65 33 (a0 :: .int x :: L) (.int x :: st) μ Q := e_iload_n (by decide +kernel : decode (bOf 65) 32 = .ok (.iload_n 1, 1)) rfl
theorem x_65_33 : Ev d 65 33 L st μ Q = Ev d 65 34 L (.int (iI (-1)) :: st) μ Q := e_iconst (by decide +kernel : decode (bOf 65) 33 = .ok (.iconst (-1), 1))
theorem x_65_34 : Ev d 65 34 L (.int y :: .int x :: st) μ Q = if x = y then Ev d 65 37 L st μ Q else Ev d 65 39 L st μ Q := e_icmp_ne (by decide +kernel : decode (bOf 65) 34 = .ok (.if_icmp .ne 5, 3)) (by omega)
theorem x_65_37 : Ev d 65 37 (a0 :: a1 :: .int x :: L) st μ Q = Ev d 65 38 (a0 :: a1 :: .int x :: L) (.int x :: st) μ Q := e_iload_n (by decide +kernel : decode (bOf 65) 37 = .ok (.iload_n 2, 1)) rfl
theorem x_65_38 : Ev d 65 38 L [.int x] μ Q = Q (some (.int x)) μ := e_iret (by decide +kernel : decode (bOf 65) 38 = .ok (.ireturn, 1)) (by decide +kernel)
theorem x_65_39 (h : a1.category = 1) : Ev d 65 39 (a0 :: a1 :: .int x :: L) st μ Q = Ev d 65 42 (a0 :: a1 :: .int (x + (iI 1)) :: L) st μ Q := e_iinc (by decide +kernel : decode (bOf 65) 39 = .ok (.iinc 2 1, 3)) rfl (by simp [stOK, h])
theorem x_65_42 : Ev d 65 42 L st μ Q = Ev d 65 9 L st μ Q := e_goto (by decide +kernel : decode (bOf 65) 42 = .ok (.goto (-33), 3)) (by omega)
theorem x_65_45 : Ev d 65 45 (a0 :: .int x :: L) st μ Q = Ev d 65 46 (a0 :: .int x :: L) (.int x :: st) μ Q := e_iload_n (by decide +kernel : decode (bOf 65) 45 = .ok (.iload_n 1, 1)) rfl
theorem x_65_46 : Ev d 65 46 L (.int x :: st) μ Q = if x = iI 0 then Ev d 65 49 L st μ Q else Ev d 65 60 L st μ Q := e_if_ne (by decide +kernel : decode (bOf 65) 46 = .ok (.ifCond .ne 14, 3)) (by omega)
theorem x_65_49 : Ev d 65 49 (.ref r :: L) st μ Q = Ev d 65 50 (.ref r :: L) (.ref r :: st) μ Q := e_aload_n (by decide +kernel : decode (bOf 65) 49 = .ok (.aload_n 0, 1)) rfl
theorem x_65_50 (h : kd t r = 4) : Ev d 65 50 L (.ref r :: st) (t, V, A, P) Q = Ev d 65 53 L (V r 10 :: st) (t, V, A, P) Q := e_getf (by decide +kernel : decode (bOf 65) 50 = .ok (.getfield 66, 3)) (by decide +kernel) (by decide +kernel) h
theorem x_65_53 : Ev d 65 53 L (.int x :: st) μ Q = if iI 0 < x then Ev d 65 56 L st μ Q else Ev d 65 60 L st μ Q := e_if_le (by decide +kernel : decode (bOf 65) 53 = .ok (.ifCond .le 7, 3)) (by omega)
theorem x_65_56 : Ev d 65 56 L st μ Q = Ev d 65 57 L (.int (iI (-1)) :: st) μ Q := e_iconst (by decide +kernel : decode (bOf 65) 56 = .ok (.iconst (-1), 1))
theorem x_65_57 : Ev d 65 57 L st μ Q = Ev d 65 64 L st μ Q := e_goto (by decide +kernel : decode (bOf 65) 57 = .ok (.goto 7, 3)) (by omega)
theorem x_65_60 : Ev d 65 60 (.ref r :: L) st μ Q = Ev d 65 61 (.ref r :: L) (.ref r :: st) μ Q := e_aload_n (by decide +kernel : decode (bOf 65) 60 = .ok (.aload_n 0, 1)) rfl
theorem x_65_61 (h : kd t r = 4) : Ev d 65 61 L (.ref r :: st) (t, V, A, P) Q = Ev d 65 64 L (V r 9 :: st) (t, V, A, P) Q := e_getf (by decide +kernel : decode (bOf 65) 61 = .ok (.getfield 55, 3)) (by decide +kernel) (by decide +kernel) h
theorem x_65_64 : Ev d 65 64 L [.int x] μ Q = Q (some (.int x)) μ := e_iret (by decide +kernel : decode (bOf 65) 64 = .ok (.ireturn, 1)) (by decide +kernel)
theorem c_66 : Call (d + 1) 66 [.ref r0, .int i1] μ Q = Ev d 66 0 [.ref r0, .int i1] [] μ Q := call_ev rfl rfl 
theorem x_66_0 : Ev d 66 0 (.ref r :: L) st μ Q = Ev d 66 1 (.ref r :: L) (.ref r :: st) μ Q := e_aload_n (by decide +kernel : decode (bOf 66) 0 = .ok (.aload_n 0, 1)) rfl
theorem x_66_1 : Ev d 66 1 (a0 :: .int x :: L) st μ Q = Ev d 66 2 (a0 :: .int x :: L) (.int x :: st) μ Q := e_iload_n (by decide +kernel : decode (bOf 66) 1 = .ok (.iload_n 1, 1)) rfl
theorem x_66_2 (h : kd t r = 4) : Ev d 66 2 L [b0, .ref r] (t, V, A, P) Q = Call d 71 [.ref r, b0] (t, V, A, P) (fun v μ1 => Ev d 66 5 L (v.toList ++ []) μ1 Q) := e_callV (a := [b0]) (r := []) (by decide +kernel : decode (bOf 66) 2 = .ok (.invokevirtual 226, 3)) (by decide +kernel) (by decide +kernel) (by decide +kernel) (by omega) rfl (by simp) (by decide +kernel) h
theorem x_66_5 : Ev d 66 5 L st μ Q = Ev d 66 7 L (.int (iI 32) :: st) μ Q := e_bipush (by decide +kernel : decode (bOf 66) 5 = .ok (.bipush 32, 2)) (by decide +kernel)
theorem x_66_7 : Ev d 66 7 L (.int y :: .int x :: st) μ Q = if x = y then Ev d 66 32 L st μ Q else Ev d 66 10 L st μ Q := e_icmp_eq (by decide +kernel : decode (bOf 66) 7 = .ok (.if_icmp .eq 25, 3)) (by omega)
theorem x_66_10 : Ev d 66 10 (.ref r :: L) st μ Q = Ev d 66 11 (.ref r :: L) (.ref r :: st) μ Q := e_aload_n (by decide +kernel : decode (bOf 66) 10 = .ok (.aload_n 0, 1)) rfl
theorem x_66_11 : Ev d 66 11 (a0 :: .int x :: L) st μ Q = Ev d 66 12 (a0 :: .int x :: L) (.int x :: st) μ Q := e_iload_n (by decide +kernel : decode (bOf 66) 11 = .ok (.iload_n 1, 1)) rfl
theorem x_66_12 (h : kd t r = 4) : Ev d 66 12 L [b0, .ref r] (t, V, A, P) Q = Call d 70 [.ref r, b0] (t, V, A, P) (fun v μ1 => Ev d 66 15 L (v.toList ++ []) μ1 Q) := e_callV (a := [b0]) (r := []) (by decide +kernel : decode (bOf 66) 12 = .ok (.invokevirtual 229, 3)) (by decide +kernel) (by decide +kernel) (by decide +kernel) (by omega) rfl (by simp) (by decide +kernel) h
theorem x_66_15 : Ev d 66 15 L (.int x :: st) μ Q = if x < iI 0 then Ev d 66 28 L st μ Q else Ev d 66 18 L st μ Q := e_if_lt (by decide +kernel : decode (bOf 66) 15 = .ok (.ifCond .lt 13, 3)) (by omega)
theorem x_66_18 : Ev d 66 18 (.ref r :: L) st μ Q = Ev d 66 19 (.ref r :: L) (.ref r :: st) μ Q := e_aload_n (by decide +kernel : decode (bOf 66) 18 = .ok (.aload_n 0, 1)) rfl
theorem x_66_19 : Ev d 66 19 (a0 :: .int x :: L) st μ Q = Ev d 66 20 (a0 :: .int x :: L) (.int x :: st) μ Q := e_iload_n (by decide +kernel : decode (bOf 66) 19 = .ok (.iload_n 1, 1)) rfl
theorem x_66_20 : Ev d 66 20 L st μ Q = Ev d 66 21 L (.int (iI 1) :: st) μ Q := e_iconst (by decide +kernel : decode (bOf 66) 20 = .ok (.iconst 1, 1))
theorem x_66_21 : Ev d 66 21 L (.int y :: .int x :: st) μ Q = Ev d 66 22 L (.int (x - y) :: st) μ Q := e_isub (by decide +kernel : decode (bOf 66) 21 = .ok (.isub, 1))
theorem x_66_22 (h : kd t r = 4) : Ev d 66 22 L [b0, .ref r] (t, V, A, P) Q = Call d 70 [.ref r, b0] (t, V, A, P) (fun v μ1 => Ev d 66 25 L (v.toList ++ []) μ1 Q) := e_callV (a := [b0]) (r := []) (by decide +kernel : decode (bOf 66) 22 = .ok (.invokevirtual 229, 3)) (by decide +kernel) (by decide +kernel) (by decide +kernel) (by omega) rfl (by simp) (by decide +kernel) h
theorem x_66_25 : Ev d 66 25 L (.int x :: st) μ Q = if x < iI 0 then Ev d 66 28 L st μ Q else Ev d 66 32 L st μ Q := e_if_ge (by decide +kernel : decode (bOf 66) 25 = .ok (.ifCond .ge 7, 3)) (by omega)
theorem x_66_28 : Ev d 66 28 L st μ Q = Ev d 66 29 L (.int (iI 1) :: st) μ Q := e_iconst (by decide +kernel : decode (bOf 66) 28 = .ok (.iconst 1, 1))
theorem x_66_29 : Ev d 66 29 L st μ Q = Ev d 66 33 L st μ Q := e_goto (by decide +kernel : decode (bOf 66) 29 = .ok (.goto 4, 3)) (by omega)
theorem x_66_32 : Ev d 66 32 L st μ Q = Ev d 66 33 L (.int (iI 0) :: st) μ Q := e_iconst (by decide +kernel : decode (bOf 66) 32 = .ok (.iconst 0, 1))
theorem x_66_33 (hx : isB x) : Ev d 66 33 L [.int x] μ Q = Q (some (.int x)) μ := e_zret (by decide +kernel : decode (bOf 66) 33 = .ok (.ireturn, 1)) (by decide +kernel) hx
theorem c_67 : Call (d + 1) 67 [.ref r0, .int i1, .int i2] μ Q = Ev d 67 0 [.ref r0, .int i1, .int i2, .null] [] μ Q := call_ev rfl rfl 
theorem x_67_0 : Ev d 67 0 (.ref r :: L) st μ Q = Ev d 67 1 (.ref r :: L) (.ref r :: st) μ Q := e_aload_n (by decide +kernel : decode (bOf 67) 0 = .ok (.aload_n 0, 1)) rfl
theorem x_67_1 : Ev d 67 1 (a0 :: a1 :: .int x :: L) st μ Q = Ev d 67 2 (a0 :: a1 :: .int x :: L) (.int x :: st) μ Q := e_iload_n (by decide +kernel : decode (bOf 67) 1 = .ok (.iload_n 2, 1)) rfl
theorem x_67_2 (h : kd t r = 4) : Ev d 67 2 L [b0, .ref r] (t, V, A, P) Q = Call d 71 [.ref r, b0] (t, V, A, P) (fun v μ1 => Ev d 67 5 L (v.toList ++ []) μ1 Q) := e_callV (a := [b0]) (r := []) (by decide +kernel : decode (bOf 67) 2 = .ok (.invokevirtual 226, 3)) (by decide +kernel) (by decide +kernel) (by decide +kernel) (by omega) rfl (by simp) (by decide +kernel) h
theorem x_67_5 (h : a2.category = 1) : Ev d 67 5 (a0 :: a1 :: a2 :: a3 :: L) (.int x :: st) μ Q = Ev d 67 6 (a0 :: a1 :: a2 :: .int x :: L) st μ Q := e_istore_n (by decide +kernel : decode (bOf 67) 5 = .ok (.istore_n 3, 1)) (by show stOK _ 3 = true; simp [stOK, h])
theorem x_67_6 : Ev d 67 6 (a0 :: .int x :: L) st μ Q = Ev d 67 7 (a0 :: .int x :: L) (.int x :: st) μ Q := e_iload_n (by decide +kernel : decode (bOf 67) 6 = .ok (.iload_n 1, 1)) rfl
theorem x_67_7 : Ev d 67 7 L (.int x :: st) μ Q = if x = iI 0 then Ev d 67 32 L st μ Q else if x = iI 1 then Ev d 67 52 L st μ Q else if x = iI 2 then Ev d 67 65 L st μ Q else Ev d 67 78 L st μ Q := by
  have hd : decode (bOf 67) 7 = .ok (.tableswitch 71 0 2 #[25, 45, 58], 25) := by decide +kernel
  by_cases h0 : x = iI 0
  · rw [if_pos h0]; exact e_sw hd (sw_in (off := 25) h0 (by omega) (by omega) (by omega) rfl (by omega))
  rw [if_neg h0]
  by_cases h1 : x = iI 1
  · rw [if_pos h1]; exact e_sw hd (sw_in (off := 45) h1 (by omega) (by omega) (by omega) rfl (by omega))
  rw [if_neg h1]
  by_cases h2 : x = iI 2
  · rw [if_pos h2]; exact e_sw hd (sw_in (off := 58) h2 (by omega) (by omega) (by omega) rfl (by omega))
  rw [if_neg h2]
  have g0 := ne_toInt h0
  have g1 := ne_toInt h1
  have g2 := ne_toInt h2
  exact e_sw hd (sw_out (by omega) (by omega))
theorem x_67_32 : Ev d 67 32 (a0 :: a1 :: a2 :: .int x :: L) st μ Q = Ev d 67 33 (a0 :: a1 :: a2 :: .int x :: L) (.int x :: st) μ Q := e_iload_n (by decide +kernel : decode (bOf 67) 32 = .ok (.iload_n 3, 1)) rfl
theorem x_67_33 : Ev d 67 33 L st μ Q = Ev d 67 35 L (.int (iI 100) :: st) μ Q := e_bipush (by decide +kernel : decode (bOf 67) 33 = .ok (.bipush 100, 2)) (by decide +kernel)
theorem x_67_35 : Ev d 67 35 L (.int y :: .int x :: st) μ Q = if x = y then Ev d 67 38 L st μ Q else Ev d 67 40 L st μ Q := e_icmp_ne (by decide +kernel : decode (bOf 67) 35 = .ok (.if_icmp .ne 5, 3)) (by omega)
theorem x_67_38 : Ev d 67 38 L st μ Q = Ev d 67 39 L (.int (iI 1) :: st) μ Q := e_iconst (by decide +kernel : decode (bOf 67) 38 = .ok (.iconst 1, 1))
theorem x_67_39 : Ev d 67 39 L [.int x] μ Q = Q (some (.int x)) μ := e_iret (by decide +kernel : decode (bOf 67) 39 = .ok (.ireturn, 1)) (by decide +kernel)
theorem x_67_40 : Ev d 67 40 (a0 :: a1 :: a2 :: .int x :: L) st μ Q = Ev d 67 41 (a0 :: a1 :: a2 :: .int x :: L) (.int x :: st) μ Q := e_iload_n (by decide +kernel : decode (bOf 67) 40 = .ok (.iload_n 3, 1)) rfl
theorem x_67_41 : Ev d 67 41 L st μ Q = Ev d 67 43 L (.int (iI 107) :: st) μ Q := e_bipush (by decide +kernel : decode (bOf 67) 41 = .ok (.bipush 107, 2)) (by decide +kernel)
theorem x_67_43 : Ev d 67 43 L (.int y :: .int x :: st) μ Q = if x = y then Ev d 67 46 L st μ Q else Ev d 67 50 L st μ Q := e_icmp_ne (by decide +kernel : decode (bOf 67) 43 = .ok (.if_icmp .ne 7, 3)) (by omega)
theorem x_67_46 : Ev d 67 46 L st μ Q = Ev d 67 47 L (.int (iI 2) :: st) μ Q := e_iconst (by decide +kernel : decode (bOf 67) 46 = .ok (.iconst 2, 1))
theorem x_67_47 : Ev d 67 47 L st μ Q = Ev d 67 51 L st μ Q := e_goto (by decide +kernel : decode (bOf 67) 47 = .ok (.goto 4, 3)) (by omega)
theorem x_67_50 : Ev d 67 50 L st μ Q = Ev d 67 51 L (.int (iI (-1)) :: st) μ Q := e_iconst (by decide +kernel : decode (bOf 67) 50 = .ok (.iconst (-1), 1))
theorem x_67_51 : Ev d 67 51 L [.int x] μ Q = Q (some (.int x)) μ := e_iret (by decide +kernel : decode (bOf 67) 51 = .ok (.ireturn, 1)) (by decide +kernel)
theorem x_67_52 : Ev d 67 52 (.ref r :: L) st μ Q = Ev d 67 53 (.ref r :: L) (.ref r :: st) μ Q := e_aload_n (by decide +kernel : decode (bOf 67) 52 = .ok (.aload_n 0, 1)) rfl
theorem x_67_53 : Ev d 67 53 (.ref r :: L) st μ Q = Ev d 67 54 (.ref r :: L) (.ref r :: st) μ Q := e_aload_n (by decide +kernel : decode (bOf 67) 53 = .ok (.aload_n 0, 1)) rfl
theorem x_67_54 : Ev d 67 54 (a0 :: a1 :: .int x :: L) st μ Q = Ev d 67 55 (a0 :: a1 :: .int x :: L) (.int x :: st) μ Q := e_iload_n (by decide +kernel : decode (bOf 67) 54 = .ok (.iload_n 2, 1)) rfl
theorem x_67_55 (h : kd t r = 4) : Ev d 67 55 L [b0, .ref r, s0] (t, V, A, P) Q = Call d 69 [.ref r, b0] (t, V, A, P) (fun v μ1 => Ev d 67 58 L (v.toList ++ [s0]) μ1 Q) := e_callV (a := [b0]) (r := [s0]) (by decide +kernel : decode (bOf 67) 55 = .ok (.invokevirtual 232, 3)) (by decide +kernel) (by decide +kernel) (by decide +kernel) (by omega) rfl (by simp) (by decide +kernel) h
theorem x_67_58 : Ev d 67 58 L st μ Q = Ev d 67 59 L (.int (iI 0) :: st) μ Q := e_iconst (by decide +kernel : decode (bOf 67) 58 = .ok (.iconst 0, 1))
theorem x_67_59 : Ev d 67 59 L st μ Q = Ev d 67 61 L (.int (iI 31) :: st) μ Q := e_bipush (by decide +kernel : decode (bOf 67) 59 = .ok (.bipush 31, 2)) (by decide +kernel)
theorem x_67_61 (h : kd t r = 4) : Ev d 67 61 L [b2, b1, b0, .ref r] (t, V, A, P) Q = Call d 68 [.ref r, b0, b1, b2] (t, V, A, P) (fun v μ1 => Ev d 67 64 L (v.toList ++ []) μ1 Q) := e_callV (a := [b0, b1, b2]) (r := []) (by decide +kernel : decode (bOf 67) 61 = .ok (.invokevirtual 235, 3)) (by decide +kernel) (by decide +kernel) (by decide +kernel) (by omega) rfl (by simp) (by decide +kernel) h
theorem x_67_64 : Ev d 67 64 L [.int x] μ Q = Q (some (.int x)) μ := e_iret (by decide +kernel : decode (bOf 67) 64 = .ok (.ireturn, 1)) (by decide +kernel)
theorem x_67_65 : Ev d 67 65 (.ref r :: L) st μ Q = Ev d 67 66 (.ref r :: L) (.ref r :: st) μ Q := e_aload_n (by decide +kernel : decode (bOf 67) 65 = .ok (.aload_n 0, 1)) rfl
theorem x_67_66 : Ev d 67 66 (.ref r :: L) st μ Q = Ev d 67 67 (.ref r :: L) (.ref r :: st) μ Q := e_aload_n (by decide +kernel : decode (bOf 67) 66 = .ok (.aload_n 0, 1)) rfl
theorem x_67_67 : Ev d 67 67 (a0 :: a1 :: .int x :: L) st μ Q = Ev d 67 68 (a0 :: a1 :: .int x :: L) (.int x :: st) μ Q := e_iload_n (by decide +kernel : decode (bOf 67) 67 = .ok (.iload_n 2, 1)) rfl
theorem x_67_68 (h : kd t r = 4) : Ev d 67 68 L [b0, .ref r, s0] (t, V, A, P) Q = Call d 69 [.ref r, b0] (t, V, A, P) (fun v μ1 => Ev d 67 71 L (v.toList ++ [s0]) μ1 Q) := e_callV (a := [b0]) (r := [s0]) (by decide +kernel : decode (bOf 67) 68 = .ok (.invokevirtual 232, 3)) (by decide +kernel) (by decide +kernel) (by decide +kernel) (by omega) rfl (by simp) (by decide +kernel) h
theorem x_67_71 : Ev d 67 71 L st μ Q = Ev d 67 73 L (.int (iI 31) :: st) μ Q := e_bipush (by decide +kernel : decode (bOf 67) 71 = .ok (.bipush 31, 2)) (by decide +kernel)
theorem x_67_73 : Ev d 67 73 L st μ Q = Ev d 67 74 L (.int (iI 3) :: st) μ Q := e_iconst (by decide +kernel : decode (bOf 67) 73 = .ok (.iconst 3, 1))
theorem x_67_74 (h : kd t r = 4) : Ev d 67 74 L [b2, b1, b0, .ref r] (t, V, A, P) Q = Call d 68 [.ref r, b0, b1, b2] (t, V, A, P) (fun v μ1 => Ev d 67 77 L (v.toList ++ []) μ1 Q) := e_callV (a := [b0, b1, b2]) (r := []) (by decide +kernel : decode (bOf 67) 74 = .ok (.invokevirtual 235, 3)) (by decide +kernel) (by decide +kernel) (by decide +kernel) (by omega) rfl (by simp) (by decide +kernel) h
theorem x_67_77 : Ev d 67 77 L [.int x] μ Q = Q (some (.int x)) μ := e_iret (by decide +kernel : decode (bOf 67) 77 = .ok (.ireturn, 1)) (by decide +kernel)
theorem x_67_78 : Ev d 67 78 (a0 :: a1 :: a2 :: .int x :: L) st μ Q = Ev d 67 79 (a0 :: a1 :: a2 :: .int x :: L) (.int x :: st) μ Q := e_iload_n (by decide +kernel : decode (bOf 67) 78 = .ok (.iload_n 3, 1)) rfl
theorem x_67_79 : Ev d 67 79 L st μ Q = Ev d 67 81 L (.int (iI 59) :: st) μ Q := e_bipush (by decide +kernel : decode (bOf 67) 79 = .ok (.bipush 59, 2)) (by decide +kernel)
theorem x_67_81 : Ev d 67 81 L (.int y :: .int x :: st) μ Q = if x = y then Ev d 67 84 L st μ Q else Ev d 67 88 L st μ Q := e_icmp_ne (by decide +kernel : decode (bOf 67) 81 = .ok (.if_icmp .ne 7, 3)) (by omega)
theorem x_67_84 : Ev d 67 84 L st μ Q = Ev d 67 85 L (.int (iI 0) :: st) μ Q := e_iconst (by decide +kernel : decode (bOf 67) 84 = .ok (.iconst 0, 1))
theorem x_67_85 : Ev d 67 85 L st μ Q = Ev d 67 89 L st μ Q := e_goto (by decide +kernel : decode (bOf 67) 85 = .ok (.goto 4, 3)) (by omega)
theorem x_67_88 : Ev d 67 88 L st μ Q = Ev d 67 89 L (.int (iI (-1)) :: st) μ Q := e_iconst (by decide +kernel : decode (bOf 67) 88 = .ok (.iconst (-1), 1))
theorem x_67_89 : Ev d 67 89 L [.int x] μ Q = Q (some (.int x)) μ := e_iret (by decide +kernel : decode (bOf 67) 89 = .ok (.ireturn, 1)) (by decide +kernel)
theorem c_68 : Call (d + 1) 68 [.ref r0, .int i1, .int i2, .int i3] μ Q = Ev d 68 0 [.ref r0, .int i1, .int i2, .int i3] [] μ Q := call_ev rfl rfl 
theorem x_68_0 : Ev d 68 0 (a0 :: .int x :: L) st μ Q = Ev d 68 1 (a0 :: .int x :: L) (.int x :: st) μ Q := e_iload_n (by decide +kernel : decode (bOf 68) 0 = .ok (.iload_n 1, 1)) rfl
theorem x_68_1 : Ev d 68 1 L (.int x :: st) μ Q = if x < iI 0 then Ev d 68 25 L st μ Q else Ev d 68 4 L st μ Q := e_if_lt (by decide +kernel : decode (bOf 68) 1 = .ok (.ifCond .lt 24, 3)) (by omega)
theorem x_68_4 : Ev d 68 4 (a0 :: .int x :: L) st μ Q = Ev d 68 5 (a0 :: .int x :: L) (.int x :: st) μ Q := e_iload_n (by decide +kernel : decode (bOf 68) 4 = .ok (.iload_n 1, 1)) rfl
theorem x_68_5 : Ev d 68 5 (a0 :: a1 :: a2 :: .int x :: L) st μ Q = Ev d 68 6 (a0 :: a1 :: a2 :: .int x :: L) (.int x :: st) μ Q := e_iload_n (by decide +kernel : decode (bOf 68) 5 = .ok (.iload_n 3, 1)) rfl
theorem x_68_6 : Ev d 68 6 L (.int y :: .int x :: st) μ Q = if x < y then Ev d 68 9 L st μ Q else Ev d 68 25 L st μ Q := e_icmp_ge (by decide +kernel : decode (bOf 68) 6 = .ok (.if_icmp .ge 19, 3)) (by omega)
theorem x_68_9 : Ev d 68 9 (.ref r :: L) st μ Q = Ev d 68 10 (.ref r :: L) (.ref r :: st) μ Q := e_aload_n (by decide +kernel : decode (bOf 68) 9 = .ok (.aload_n 0, 1)) rfl
theorem x_68_10 (h : kd t r = 4) : Ev d 68 10 L (.ref r :: st) (t, V, A, P) Q = Ev d 68 13 L (V r 10 :: st) (t, V, A, P) Q := e_getf (by decide +kernel : decode (bOf 68) 10 = .ok (.getfield 66, 3)) (by decide +kernel) (by decide +kernel) h
theorem x_68_13 : Ev d 68 13 L (.int x :: st) μ Q = if x < iI 0 then Ev d 68 25 L st μ Q else Ev d 68 16 L st μ Q := e_if_lt (by decide +kernel : decode (bOf 68) 13 = .ok (.ifCond .lt 12, 3)) (by omega)
theorem x_68_16 : Ev d 68 16 (.ref r :: L) st μ Q = Ev d 68 17 (.ref r :: L) (.ref r :: st) μ Q := e_aload_n (by decide +kernel : decode (bOf 68) 16 = .ok (.aload_n 0, 1)) rfl
theorem x_68_17 (h : kd t r = 4) : Ev d 68 17 L (.ref r :: st) (t, V, A, P) Q = Ev d 68 20 L (V r 10 :: st) (t, V, A, P) Q := e_getf (by decide +kernel : decode (bOf 68) 17 = .ok (.getfield 66, 3)) (by decide +kernel) (by decide +kernel) h
theorem x_68_20 : Ev d 68 20 L st μ Q = Ev d 68 22 L (.int (iI 40) :: st) μ Q := e_bipush (by decide +kernel : decode (bOf 68) 20 = .ok (.bipush 40, 2)) (by decide +kernel)
theorem x_68_22 : Ev d 68 22 L (.int y :: .int x :: st) μ Q = if x < y then Ev d 68 27 L st μ Q else Ev d 68 25 L st μ Q := e_icmp_lt (by decide +kernel : decode (bOf 68) 22 = .ok (.if_icmp .lt 5, 3)) (by omega)
theorem x_68_25 : Ev d 68 25 L st μ Q = Ev d 68 26 L (.int (iI (-1)) :: st) μ Q := e_iconst (by decide +kernel : decode (bOf 68) 25 = .ok (.iconst (-1), 1))
theorem x_68_26 : Ev d 68 26 L [.int x] μ Q = Q (some (.int x)) μ := e_iret (by decide +kernel : decode (bOf 68) 26 = .ok (.ireturn, 1)) (by decide +kernel)
theorem x_68_27 : Ev d 68 27 (.ref r :: L) st μ Q = Ev d 68 28 (.ref r :: L) (.ref r :: st) μ Q := e_aload_n (by decide +kernel : decode (bOf 68) 27 = .ok (.aload_n 0, 1)) rfl
theorem x_68_28 (h : kd t r = 4) : Ev d 68 28 L (.ref r :: st) (t, V, A, P) Q = Ev d 68 31 L (V r 5 :: st) (t, V, A, P) Q := e_getf (by decide +kernel : decode (bOf 68) 28 = .ok (.getfield 31, 3)) (by decide +kernel) (by decide +kernel) h
theorem x_68_31 : Ev d 68 31 (.ref r :: L) st μ Q = Ev d 68 32 (.ref r :: L) (.ref r :: st) μ Q := e_aload_n (by decide +kernel : decode (bOf 68) 31 = .ok (.aload_n 0, 1)) rfl
theorem x_68_32 (h : kd t r = 4) : Ev d 68 32 L (.ref r :: st) (t, V, A, P) Q = Ev d 68 35 L (V r 10 :: st) (t, V, A, P) Q := e_getf (by decide +kernel : decode (bOf 68) 32 = .ok (.getfield 66, 3)) (by decide +kernel) (by decide +kernel) h
theorem x_68_35 : Ev d 68 35 (a0 :: a1 :: .int x :: L) st μ Q = Ev d 68 36 (a0 :: a1 :: .int x :: L) (.int x :: st) μ Q := e_iload_n (by decide +kernel : decode (bOf 68) 35 = .ok (.iload_n 2, 1)) rfl
theorem x_68_36 : Ev d 68 36 (a0 :: .int x :: L) st μ Q = Ev d 68 37 (a0 :: .int x :: L) (.int x :: st) μ Q := e_iload_n (by decide +kernel : decode (bOf 68) 36 = .ok (.iload_n 1, 1)) rfl
theorem x_68_37 : Ev d 68 37 L (.int y :: .int x :: st) μ Q = Ev d 68 38 L (.int (x + y) :: st) μ Q := e_iadd (by decide +kernel : decode (bOf 68) 37 = .ok (.iadd, 1))
theorem x_68_38 (h : kd t r = 6) (hi : inB x (ln t r) = true) : Ev d 68 38 L (.int y :: .int x :: .ref r :: st) (t, V, A, P) Q = Ev d 68 39 L st (t, V, up1 A r (upd (A r) x.toNatClampNeg y), P) Q := e_iast (by decide +kernel : decode (bOf 68) 38 = .ok (.iastore, 1)) h hi
theorem x_68_39 : Ev d 68 39 (.ref r :: L) st μ Q = Ev d 68 40 (.ref r :: L) (.ref r :: st) μ Q := e_aload_n (by decide +kernel : decode (bOf 68) 39 = .ok (.aload_n 0, 1)) rfl
theorem x_68_40 : Ev d 68 40 L (.ref r :: st) μ Q = Ev d 68 41 L (.ref r :: .ref r :: st) μ Q := e_dup_a (by decide +kernel : decode (bOf 68) 40 = .ok (.dup, 1))
theorem x_68_41 (h : kd t r = 4) : Ev d 68 41 L (.ref r :: st) (t, V, A, P) Q = Ev d 68 44 L (V r 10 :: st) (t, V, A, P) Q := e_getf (by decide +kernel : decode (bOf 68) 41 = .ok (.getfield 66, 3)) (by decide +kernel) (by decide +kernel) h
theorem x_68_44 : Ev d 68 44 L st μ Q = Ev d 68 45 L (.int (iI 1) :: st) μ Q := e_iconst (by decide +kernel : decode (bOf 68) 44 = .ok (.iconst 1, 1))
theorem x_68_45 : Ev d 68 45 L (.int y :: .int x :: st) μ Q = Ev d 68 46 L (.int (x + y) :: st) μ Q := e_iadd (by decide +kernel : decode (bOf 68) 45 = .ok (.iadd, 1))
theorem x_68_46 (h : kd t r = 4) : Ev d 68 46 L (.int x :: .ref r :: st) (t, V, A, P) Q = Ev d 68 49 L st (t, up1 V r (up1 (V r) 10 (.int x)), A, P) Q := e_putf (by decide +kernel : decode (bOf 68) 46 = .ok (.putfield 66, 3)) (by decide +kernel) (by decide +kernel) rfl h
theorem x_68_49 : Ev d 68 49 L st μ Q = Ev d 68 50 L (.int (iI 3) :: st) μ Q := e_iconst (by decide +kernel : decode (bOf 68) 49 = .ok (.iconst 3, 1))
theorem x_68_50 : Ev d 68 50 L [.int x] μ Q = Q (some (.int x)) μ := e_iret (by decide +kernel : decode (bOf 68) 50 = .ok (.ireturn, 1)) (by decide +kernel)
theorem c_69 : Call (d + 1) 69 [.ref r0, .int i1] μ Q = Ev d 69 0 [.ref r0, .int i1, .null, .null, .null] [] μ Q := call_ev rfl rfl 
theorem x_69_0 : Ev d 69 0 (.ref r :: L) st μ Q = Ev d 69 1 (.ref r :: L) (.ref r :: st) μ Q := e_aload_n (by decide +kernel : decode (bOf 69) 0 = .ok (.aload_n 0, 1)) rfl
theorem x_69_1 : Ev d 69 1 (a0 :: .int x :: L) st μ Q = Ev d 69 2 (a0 :: .int x :: L) (.int x :: st) μ Q := e_iload_n (by decide +kernel : decode (bOf 69) 1 = .ok (.iload_n 1, 1)) rfl
theorem x_69_2 (h : kd t r = 4) : Ev d 69 2 L [b0, .ref r] (t, V, A, P) Q = Call d 70 [.ref r, b0] (t, V, A, P) (fun v μ1 => Ev d 69 5 L (v.toList ++ []) μ1 Q) := e_callV (a := [b0]) (r := []) (by decide +kernel : decode (bOf 69) 2 = .ok (.invokevirtual 229, 3)) (by decide +kernel) (by decide +kernel) (by decide +kernel) (by omega) rfl (by simp) (by decide +kernel) h
theorem x_69_5 (h : a1.category = 1) : Ev d 69 5 (a0 :: a1 :: a2 :: L) (.int x :: st) μ Q = Ev d 69 6 (a0 :: a1 :: .int x :: L) st μ Q := e_istore_n (by decide +kernel : decode (bOf 69) 5 = .ok (.istore_n 2, 1)) (by show stOK _ 2 = true; simp [stOK, h])
theorem x_69_6 : Ev d 69 6 (.ref r :: L) st μ Q = Ev d 69 7 (.ref r :: L) (.ref r :: st) μ Q := e_aload_n (by decide +kernel : decode (bOf 69) 6 = .ok (.aload_n 0, 1)) rfl
theorem x_69_7 : Ev d 69 7 (a0 :: .int x :: L) st μ Q = Ev d 69 8 (a0 :: .int x :: L) (.int x :: st) μ Q := e_iload_n (by decide +kernel : decode (bOf 69) 7 = .ok (.iload_n 1, 1)) rfl
theorem x_69_8 : Ev d 69 8 L st μ Q = Ev d 69 9 L (.int (iI 1) :: st) μ Q := e_iconst (by decide +kernel : decode (bOf 69) 8 = .ok (.iconst 1, 1))
theorem x_69_9 : Ev d 69 9 L (.int y :: .int x :: st) μ Q = Ev d 69 10 L (.int (x + y) :: st) μ Q := e_iadd (by decide +kernel : decode (bOf 69) 9 = .ok (.iadd, 1))
theorem x_69_10 (h : kd t r = 4) : Ev d 69 10 L [b0, .ref r] (t, V, A, P) Q = Call d 70 [.ref r, b0] (t, V, A, P) (fun v μ1 => Ev d 69 13 L (v.toList ++ []) μ1 Q) := e_callV (a := [b0]) (r := []) (by decide +kernel : decode (bOf 69) 10 = .ok (.invokevirtual 229, 3)) (by decide +kernel) (by decide +kernel) (by decide +kernel) (by omega) rfl (by simp) (by decide +kernel) h
theorem x_69_13 (h : a2.category = 1) : Ev d 69 13 (a0 :: a1 :: a2 :: a3 :: L) (.int x :: st) μ Q = Ev d 69 14 (a0 :: a1 :: a2 :: .int x :: L) st μ Q := e_istore_n (by decide +kernel : decode (bOf 69) 13 = .ok (.istore_n 3, 1)) (by show stOK _ 3 = true; simp [stOK, h])
theorem x_69_14 : Ev d 69 14 (a0 :: a1 :: .int x :: L) st μ Q = Ev d 69 15 (a0 :: a1 :: .int x :: L) (.int x :: st) μ Q := e_iload_n (by decide +kernel : decode (bOf 69) 14 = .ok (.iload_n 2, 1)) rfl
theorem x_69_15 : Ev d 69 15 L (.int x :: st) μ Q = if x < iI 0 then Ev d 69 22 L st μ Q else Ev d 69 18 L st μ Q := e_if_lt (by decide +kernel : decode (bOf 69) 15 = .ok (.ifCond .lt 7, 3)) (by omega)
theorem x_69_18 : Ev d 69 18 (a0 :: a1 :: a2 :: .int x :: L) st μ Q = Ev d 69 19 (a0 :: a1 :: a2 :: .int x :: L) (.int x :: st) μ Q := e_iload_n (by decide +kernel : decode (bOf 69) 18 = .ok (.iload_n 3, 1)) rfl
theorem x_69_19 : Ev d 69 19 L (.int x :: st) μ Q = if x < iI 0 then Ev d 69 22 L st μ Q else Ev d 69 24 L st μ Q := e_if_ge (by decide +kernel : decode (bOf 69) 19 = .ok (.ifCond .ge 5, 3)) (by omega)
theorem x_69_22 : Ev d 69 22 (a0 :: a1 :: .int x :: L) st μ Q = Ev d 69 23 (a0 :: a1 :: .int x :: L) (.int x :: st) μ Q := e_iload_n (by decide +kernel : decode (bOf 69) 22 = .ok (.iload_n 2, 1)) rfl
theorem x_69_23 : Ev d 69 23 L [.int x] μ Q = Q (some (.int x)) μ := e_iret (by decide +kernel : decode (bOf 69) 23 = .ok (.ireturn, 1)) (by decide +kernel)
theorem x_69_24 : Ev d 69 24 (.ref r :: L) st μ Q = Ev d 69 25 (.ref r :: L) (.ref r :: st) μ Q := e_aload_n (by decide +kernel : decode (bOf 69) 24 = .ok (.aload_n 0, 1)) rfl
theorem x_69_25 : Ev d 69 25 (a0 :: .int x :: L) st μ Q = Ev d 69 26 (a0 :: .int x :: L) (.int x :: st) μ Q := e_iload_n (by decide +kernel : decode (bOf 69) 25 = .ok (.iload_n 1, 1)) rfl
theorem x_69_26 : Ev d 69 26 L st μ Q = Ev d 69 27 L (.int (iI 2) :: st) μ Q := e_iconst (by decide +kernel : decode (bOf 69) 26 = .ok (.iconst 2, 1))
theorem x_69_27 : Ev d 69 27 L (.int y :: .int x :: st) μ Q = Ev d 69 28 L (.int (x + y) :: st) μ Q := e_iadd (by decide +kernel : decode (bOf 69) 27 = .ok (.iadd, 1))
theorem x_69_28 (h : kd t r = 4) : Ev d 69 28 L [b0, .ref r] (t, V, A, P) Q = Call d 70 [.ref r, b0] (t, V, A, P) (fun v μ1 => Ev d 69 31 L (v.toList ++ []) μ1 Q) := e_callV (a := [b0]) (r := []) (by decide +kernel : decode (bOf 69) 28 = .ok (.invokevirtual 229, 3)) (by decide +kernel) (by decide +kernel) (by decide +kernel) (by omega) rfl (by simp) (by decide +kernel) h
theorem x_69_31 : Ev d 69 31 L (.int x :: st) μ Q = if x < iI 0 then Ev d 69 38 L st μ Q else Ev d 69 34 L st μ Q := e_if_lt (by decide +kernel : decode (bOf 69) 31 = .ok (.ifCond .lt 7, 3)) (by omega)
theorem x_69_34 : Ev d 69 34 L st μ Q = Ev d 69 35 L (.int (iI 1) :: st) μ Q := e_iconst (by decide +kernel : decode (bOf 69) 34 = .ok (.iconst 1, 1))
theorem x_69_35 : Ev d 69 35 L st μ Q = Ev d 69 39 L st μ Q := e_goto (by decide +kernel : decode (bOf 69) 35 = .ok (.goto 4, 3)) (by omega)
theorem x_69_38 : Ev d 69 38 L st μ Q = Ev d 69 39 L (.int (iI 0) :: st) μ Q := e_iconst (by decide +kernel : decode (bOf 69) 38 = .ok (.iconst 0, 1))
theorem x_69_39 (h : a3.category = 1) : Ev d 69 39 (a0 :: a1 :: a2 :: a3 :: a4 :: L) (.int x :: st) μ Q = Ev d 69 41 (a0 :: a1 :: a2 :: a3 :: .int x :: L) st μ Q := e_istore (by decide +kernel : decode (bOf 69) 39 = .ok (.istore 4, 2)) (by show stOK _ 4 = true; simp [stOK, h])
theorem x_69_41 : Ev d 69 41 (a0 :: a1 :: .int x :: L) st μ Q = Ev d 69 42 (a0 :: a1 :: .int x :: L) (.int x :: st) μ Q := e_iload_n (by decide +kernel : decode (bOf 69) 41 = .ok (.iload_n 2, 1)) rfl
theorem x_69_42 : Ev d 69 42 L (.int x :: st) μ Q = if x = iI 0 then Ev d 69 50 L st μ Q else Ev d 69 45 L st μ Q := e_if_eq (by decide +kernel : decode (bOf 69) 42 = .ok (.ifCond .eq 8, 3)) (by omega)
theorem x_69_45 : Ev d 69 45 (a0 :: a1 :: a2 :: a3 :: .int x :: L) st μ Q = Ev d 69 47 (a0 :: a1 :: a2 :: a3 :: .int x :: L) (.int x :: st) μ Q := e_iload (by decide +kernel : decode (bOf 69) 45 = .ok (.iload 4, 2)) rfl
theorem x_69_47 : Ev d 69 47 L (.int x :: st) μ Q = if x = iI 0 then Ev d 69 54 L st μ Q else Ev d 69 50 L st μ Q := e_if_eq (by decide +kernel : decode (bOf 69) 47 = .ok (.ifCond .eq 7, 3)) (by omega)
theorem x_69_50 : Ev d 69 50 L st μ Q = Ev d 69 51 L (.int (iI (-1)) :: st) μ Q := e_iconst (by decide +kernel : decode (bOf 69) 50 = .ok (.iconst (-1), 1))
theorem x_69_51 : Ev d 69 51 L st μ Q = Ev d 69 60 L st μ Q := e_goto (by decide +kernel : decode (bOf 69) 51 = .ok (.goto 9, 3)) (by omega)
theorem x_69_54 : Ev d 69 54 L st μ Q = Ev d 69 56 L (.int (iI 10) :: st) μ Q := e_bipush (by decide +kernel : decode (bOf 69) 54 = .ok (.bipush 10, 2)) (by decide +kernel)
theorem x_69_56 : Ev d 69 56 (a0 :: a1 :: .int x :: L) st μ Q = Ev d 69 57 (a0 :: a1 :: .int x :: L) (.int x :: st) μ Q := e_iload_n (by decide +kernel : decode (bOf 69) 56 = .ok (.iload_n 2, 1)) rfl
theorem x_69_57 : Ev d 69 57 L (.int y :: .int x :: st) μ Q = Ev d 69 58 L (.int (x * y) :: st) μ Q := e_imul (by decide +kernel : decode (bOf 69) 57 = .ok (.imul, 1))
theorem x_69_58 : Ev d 69 58 (a0 :: a1 :: a2 :: .int x :: L) st μ Q = Ev d 69 59 (a0 :: a1 :: a2 :: .int x :: L) (.int x :: st) μ Q := e_iload_n (by decide +kernel : decode (bOf 69) 58 = .ok (.iload_n 3, 1)) rfl
theorem x_69_59 : Ev d 69 59 L (.int y :: .int x :: st) μ Q = Ev d 69 60 L (.int (x + y) :: st) μ Q := e_iadd (by decide +kernel : decode (bOf 69) 59 = .ok (.iadd, 1))
theorem x_69_60 : Ev d 69 60 L [.int x] μ Q = Q (some (.int x)) μ := e_iret (by decide +kernel : decode (bOf 69) 60 = .ok (.ireturn, 1)) (by decide +kernel)
theorem c_70 : Call (d + 1) 70 [.ref r0, .int i1] μ Q = Ev d 70 0 [.ref r0, .int i1, .null] [] μ Q := call_ev rfl rfl 
theorem x_70_0 : Ev d 70 0 (.ref r :: L) st μ Q = Ev d 70 1 (.ref r :: L) (.ref r :: st) μ Q := e_aload_n (by decide +kernel : decode (bOf 70) 0 = .ok (.aload_n 0, 1)) rfl
theorem x_70_1 : Ev d 70 1 (a0 :: .int x :: L) st μ Q = Ev d 70 2 (a0 :: .int x :: L) (.int x :: st) μ Q := e_iload_n (by decide +kernel : decode (bOf 70) 1 = .ok (.iload_n 1, 1)) rfl
theorem x_70_2 (h : kd t r = 4) : Ev d 70 2 L [b0, .ref r] (t, V, A, P) Q = Call d 71 [.ref r, b0] (t, V, A, P) (fun v μ1 => Ev d 70 5 L (v.toList ++ []) μ1 Q) := e_callV (a := [b0]) (r := []) (by decide +kernel : decode (bOf 70) 2 = .ok (.invokevirtual 226, 3)) (by decide +kernel) (by decide +kernel) (by decide +kernel) (by omega) rfl (by simp) (by decide +kernel) h
theorem x_70_5 (h : a1.category = 1) : Ev d 70 5 (a0 :: a1 :: a2 :: L) (.int x :: st) μ Q = Ev d 70 6 (a0 :: a1 :: .int x :: L) st μ Q := e_istore_n (by decide +kernel : decode (bOf 70) 5 = .ok (.istore_n 2, 1)) (by show stOK _ 2 = true; simp [stOK, h])
theorem x_70_6 : Ev d 70 6 (a0 :: a1 :: .int x :: L) st μ Q = Ev d 70 7 (a0 :: a1 :: .int x :: L) (.int x :: st) μ Q := e_iload_n (by decide +kernel : decode (bOf 70) 6 = .ok (.iload_n 2, 1)) rfl
theorem x_70_7 : Ev d 70 7 L st μ Q = Ev d 70 9 L (.int (iI 48) :: st) μ Q := e_bipush (by decide +kernel : decode (bOf 70) 7 = .ok (.bipush 48, 2)) (by decide +kernel)
theorem x_70_9 : Ev d 70 9 L (.int y :: .int x :: st) μ Q = if x < y then Ev d 70 25 L st μ Q else Ev d 70 12 L st μ Q := e_icmp_lt (by decide +kernel : decode (bOf 70) 9 = .ok (.if_icmp .lt 16, 3)) (by omega)
theorem x_70_12 : Ev d 70 12 (a0 :: a1 :: .int x :: L) st μ Q = Ev d 70 13 (a0 :: a1 :: .int x :: L) (.int x :: st) μ Q := e_iload_n (by decide +kernel : decode (bOf 70) 12 = .ok (.iload_n 2, 1)) rfl
theorem x_70_13 : Ev d 70 13 L st μ Q = Ev d 70 15 L (.int (iI 57) :: st) μ Q := e_bipush (by decide +kernel : decode (bOf 70) 13 = .ok (.bipush 57, 2)) (by decide +kernel)
theorem x_70_15 : Ev d 70 15 L (.int y :: .int x :: st) μ Q = if y < x then Ev d 70 25 L st μ Q else Ev d 70 18 L st μ Q := e_icmp_gt (by decide +kernel : decode (bOf 70) 15 = .ok (.if_icmp .gt 10, 3)) (by omega)
theorem x_70_18 : Ev d 70 18 (a0 :: a1 :: .int x :: L) st μ Q = Ev d 70 19 (a0 :: a1 :: .int x :: L) (.int x :: st) μ Q := e_iload_n (by decide +kernel : decode (bOf 70) 18 = .ok (.iload_n 2, 1)) rfl
theorem x_70_19 : Ev d 70 19 L st μ Q = Ev d 70 21 L (.int (iI 48) :: st) μ Q := e_bipush (by decide +kernel : decode (bOf 70) 19 = .ok (.bipush 48, 2)) (by decide +kernel)
theorem x_70_21 : Ev d 70 21 L (.int y :: .int x :: st) μ Q = Ev d 70 22 L (.int (x - y) :: st) μ Q := e_isub (by decide +kernel : decode (bOf 70) 21 = .ok (.isub, 1))
theorem x_70_22 : Ev d 70 22 L st μ Q = Ev d 70 26 L st μ Q := e_goto (by decide +kernel : decode (bOf 70) 22 = .ok (.goto 4, 3)) (by omega)
theorem x_70_25 : Ev d 70 25 L st μ Q = Ev d 70 26 L (.int (iI (-1)) :: st) μ Q := e_iconst (by decide +kernel : decode (bOf 70) 25 = .ok (.iconst (-1), 1))
theorem x_70_26 : Ev d 70 26 L [.int x] μ Q = Q (some (.int x)) μ := e_iret (by decide +kernel : decode (bOf 70) 26 = .ok (.ireturn, 1)) (by decide +kernel)
theorem c_71 : Call (d + 1) 71 [.ref r0, .int i1] μ Q = Ev d 71 0 [.ref r0, .int i1] [] μ Q := call_ev rfl rfl 
theorem x_71_0 : Ev d 71 0 (a0 :: .int x :: L) st μ Q = Ev d 71 1 (a0 :: .int x :: L) (.int x :: st) μ Q := e_iload_n (by decide +kernel : decode (bOf 71) 0 = .ok (.iload_n 1, 1)) rfl
theorem x_71_1 : Ev d 71 1 L (.int x :: st) μ Q = if x < iI 0 then Ev d 71 27 L st μ Q else Ev d 71 4 L st μ Q := e_if_lt (by decide +kernel : decode (bOf 71) 1 = .ok (.ifCond .lt 26, 3)) (by omega)
theorem x_71_4 : Ev d 71 4 (a0 :: .int x :: L) st μ Q = Ev d 71 5 (a0 :: .int x :: L) (.int x :: st) μ Q := e_iload_n (by decide +kernel : decode (bOf 71) 4 = .ok (.iload_n 1, 1)) rfl
theorem x_71_5 : Ev d 71 5 (.ref r :: L) st μ Q = Ev d 71 6 (.ref r :: L) (.ref r :: st) μ Q := e_aload_n (by decide +kernel : decode (bOf 71) 5 = .ok (.aload_n 0, 1)) rfl
theorem x_71_6 (h : kd t r = 4) : Ev d 71 6 L (.ref r :: st) (t, V, A, P) Q = Ev d 71 9 L (V r 9 :: st) (t, V, A, P) Q := e_getf (by decide +kernel : decode (bOf 71) 6 = .ok (.getfield 55, 3)) (by decide +kernel) (by decide +kernel) h
theorem x_71_9 : Ev d 71 9 L (.int y :: .int x :: st) μ Q = if x < y then Ev d 71 12 L st μ Q else Ev d 71 27 L st μ Q := e_icmp_ge (by decide +kernel : decode (bOf 71) 9 = .ok (.if_icmp .ge 18, 3)) (by omega)
theorem x_71_12 : Ev d 71 12 (a0 :: .int x :: L) st μ Q = Ev d 71 13 (a0 :: .int x :: L) (.int x :: st) μ Q := e_iload_n (by decide +kernel : decode (bOf 71) 12 = .ok (.iload_n 1, 1)) rfl
theorem x_71_13 : Ev d 71 13 L st μ Q = Ev d 71 15 L (.int (iI 120) :: st) μ Q := e_bipush (by decide +kernel : decode (bOf 71) 13 = .ok (.bipush 120, 2)) (by decide +kernel)
theorem x_71_15 : Ev d 71 15 L (.int y :: .int x :: st) μ Q = if x < y then Ev d 71 18 L st μ Q else Ev d 71 27 L st μ Q := e_icmp_ge (by decide +kernel : decode (bOf 71) 15 = .ok (.if_icmp .ge 12, 3)) (by omega)
theorem x_71_18 : Ev d 71 18 (.ref r :: L) st μ Q = Ev d 71 19 (.ref r :: L) (.ref r :: st) μ Q := e_aload_n (by decide +kernel : decode (bOf 71) 18 = .ok (.aload_n 0, 1)) rfl
theorem x_71_19 (h : kd t r = 4) : Ev d 71 19 L (.ref r :: st) (t, V, A, P) Q = Ev d 71 22 L (V r 4 :: st) (t, V, A, P) Q := e_getf (by decide +kernel : decode (bOf 71) 19 = .ok (.getfield 27, 3)) (by decide +kernel) (by decide +kernel) h
theorem x_71_22 : Ev d 71 22 (a0 :: .int x :: L) st μ Q = Ev d 71 23 (a0 :: .int x :: L) (.int x :: st) μ Q := e_iload_n (by decide +kernel : decode (bOf 71) 22 = .ok (.iload_n 1, 1)) rfl
theorem x_71_23 (h : kd t r = 6) (hi : inB x (ln t r) = true) : Ev d 71 23 L (.int x :: .ref r :: st) (t, V, A, P) Q = Ev d 71 24 L (.int (A r x.toNatClampNeg) :: st) (t, V, A, P) Q := e_iald (by decide +kernel : decode (bOf 71) 23 = .ok (.iaload, 1)) h hi
theorem x_71_24 : Ev d 71 24 L st μ Q = Ev d 71 28 L st μ Q := e_goto (by decide +kernel : decode (bOf 71) 24 = .ok (.goto 4, 3)) (by omega)
theorem x_71_27 : Ev d 71 27 L st μ Q = Ev d 71 28 L (.int (iI (-1)) :: st) μ Q := e_iconst (by decide +kernel : decode (bOf 71) 27 = .ok (.iconst (-1), 1))
theorem x_71_28 : Ev d 71 28 L [.int x] μ Q = Q (some (.int x)) μ := e_iret (by decide +kernel : decode (bOf 71) 28 = .ok (.ireturn, 1)) (by decide +kernel)
theorem c_72 : Call (d + 1) 72 [.int i0, .int i1] μ Q = Ev d 72 0 [.int i0, .int i1] [] μ Q := call_ev rfl rfl 
theorem x_72_0 : Ev d 72 0 (.int x :: L) st μ Q = Ev d 72 1 (.int x :: L) (.int x :: st) μ Q := e_iload_n (by decide +kernel : decode (bOf 72) 0 = .ok (.iload_n 0, 1)) rfl
theorem x_72_1 : Ev d 72 1 L (.int x :: st) μ Q = if x < iI 0 then Ev d 72 23 L st μ Q else Ev d 72 4 L st μ Q := e_if_lt (by decide +kernel : decode (bOf 72) 1 = .ok (.ifCond .lt 22, 3)) (by omega)
theorem x_72_4 : Ev d 72 4 (.int x :: L) st μ Q = Ev d 72 5 (.int x :: L) (.int x :: st) μ Q := e_iload_n (by decide +kernel : decode (bOf 72) 4 = .ok (.iload_n 0, 1)) rfl
theorem x_72_5 : Ev d 72 5 L st μ Q = Ev d 72 7 L (.int (iI 6) :: st) μ Q := e_bipush (by decide +kernel : decode (bOf 72) 5 = .ok (.bipush 6, 2)) (by decide +kernel)
theorem x_72_7 : Ev d 72 7 L (.int y :: .int x :: st) μ Q = if x < y then Ev d 72 10 L st μ Q else Ev d 72 23 L st μ Q := e_icmp_ge (by decide +kernel : decode (bOf 72) 7 = .ok (.if_icmp .ge 16, 3)) (by omega)
theorem x_72_10 : Ev d 72 10 (a0 :: .int x :: L) st μ Q = Ev d 72 11 (a0 :: .int x :: L) (.int x :: st) μ Q := e_iload_n (by decide +kernel : decode (bOf 72) 10 = .ok (.iload_n 1, 1)) rfl
theorem x_72_11 : Ev d 72 11 L (.int x :: st) μ Q = if x < iI 0 then Ev d 72 23 L st μ Q else Ev d 72 14 L st μ Q := e_if_lt (by decide +kernel : decode (bOf 72) 11 = .ok (.ifCond .lt 12, 3)) (by omega)
theorem x_72_14 : Ev d 72 14 (a0 :: .int x :: L) st μ Q = Ev d 72 15 (a0 :: .int x :: L) (.int x :: st) μ Q := e_iload_n (by decide +kernel : decode (bOf 72) 14 = .ok (.iload_n 1, 1)) rfl
theorem x_72_15 : Ev d 72 15 L st μ Q = Ev d 72 16 L (.int (iI 1) :: st) μ Q := e_iconst (by decide +kernel : decode (bOf 72) 15 = .ok (.iconst 1, 1))
theorem x_72_16 : Ev d 72 16 L (.int y :: .int x :: st) μ Q = if y < x then Ev d 72 23 L st μ Q else Ev d 72 19 L st μ Q := e_icmp_gt (by decide +kernel : decode (bOf 72) 16 = .ok (.if_icmp .gt 7, 3)) (by omega)
theorem x_72_19 : Ev d 72 19 L st μ Q = Ev d 72 20 L (.int (iI 1) :: st) μ Q := e_iconst (by decide +kernel : decode (bOf 72) 19 = .ok (.iconst 1, 1))
theorem x_72_20 : Ev d 72 20 L st μ Q = Ev d 72 24 L st μ Q := e_goto (by decide +kernel : decode (bOf 72) 20 = .ok (.goto 4, 3)) (by omega)
theorem x_72_23 : Ev d 72 23 L st μ Q = Ev d 72 24 L (.int (iI 0) :: st) μ Q := e_iconst (by decide +kernel : decode (bOf 72) 23 = .ok (.iconst 0, 1))
theorem x_72_24 (hx : isB x) : Ev d 72 24 L [.int x] μ Q = Q (some (.int x)) μ := e_zret (by decide +kernel : decode (bOf 72) 24 = .ok (.ireturn, 1)) (by decide +kernel) hx
theorem c_73 : Call (d + 1) 73 [.int i0] μ Q = Ev d 73 0 [.int i0] [] μ Q := call_ev rfl rfl 
theorem x_73_0 : Ev d 73 0 (.int x :: L) st μ Q = Ev d 73 1 (.int x :: L) (.int x :: st) μ Q := e_iload_n (by decide +kernel : decode (bOf 73) 0 = .ok (.iload_n 0, 1)) rfl
theorem x_73_1 : Ev d 73 1 L st μ Q = Ev d 73 2 L (.int (iI 1) :: st) μ Q := e_iconst (by decide +kernel : decode (bOf 73) 1 = .ok (.iconst 1, 1))
theorem x_73_2 : Ev d 73 2 L (.int y :: .int x :: st) μ Q = if x = y then Ev d 73 5 L st μ Q else Ev d 73 9 L st μ Q := e_icmp_ne (by decide +kernel : decode (bOf 73) 2 = .ok (.if_icmp .ne 7, 3)) (by omega)
theorem x_73_5 : Ev d 73 5 L st μ Q = Ev d 73 6 L (.int (iI 1) :: st) μ Q := e_iconst (by decide +kernel : decode (bOf 73) 5 = .ok (.iconst 1, 1))
theorem x_73_6 : Ev d 73 6 L st μ Q = Ev d 73 10 L st μ Q := e_goto (by decide +kernel : decode (bOf 73) 6 = .ok (.goto 4, 3)) (by omega)
theorem x_73_9 : Ev d 73 9 L st μ Q = Ev d 73 10 L (.int (iI (-1)) :: st) μ Q := e_iconst (by decide +kernel : decode (bOf 73) 9 = .ok (.iconst (-1), 1))
theorem x_73_10 : Ev d 73 10 L [.int x] μ Q = Q (some (.int x)) μ := e_iret (by decide +kernel : decode (bOf 73) 10 = .ok (.ireturn, 1)) (by decide +kernel)
theorem c_74 : Call (d + 1) 74 [.int i0] μ Q = Ev d 74 0 [.int i0] [] μ Q := call_ev rfl rfl 
theorem x_74_0 : Ev d 74 0 (.int x :: L) st μ Q = Ev d 74 1 (.int x :: L) (.int x :: st) μ Q := e_iload_n (by decide +kernel : decode (bOf 74) 0 = .ok (.iload_n 0, 1)) rfl
theorem x_74_1 : Ev d 74 1 L st μ Q = Ev d 74 2 L (.int (iI 1) :: st) μ Q := e_iconst (by decide +kernel : decode (bOf 74) 1 = .ok (.iconst 1, 1))
theorem x_74_2 : Ev d 74 2 L (.int y :: .int x :: st) μ Q = if x = y then Ev d 74 5 L st μ Q else Ev d 74 9 L st μ Q := e_icmp_ne (by decide +kernel : decode (bOf 74) 2 = .ok (.if_icmp .ne 7, 3)) (by omega)
theorem x_74_5 : Ev d 74 5 L st μ Q = Ev d 74 6 L (.int (iI 1) :: st) μ Q := e_iconst (by decide +kernel : decode (bOf 74) 5 = .ok (.iconst 1, 1))
theorem x_74_6 : Ev d 74 6 L st μ Q = Ev d 74 10 L st μ Q := e_goto (by decide +kernel : decode (bOf 74) 6 = .ok (.goto 4, 3)) (by omega)
theorem x_74_9 : Ev d 74 9 L st μ Q = Ev d 74 10 L (.int (iI 0) :: st) μ Q := e_iconst (by decide +kernel : decode (bOf 74) 9 = .ok (.iconst 0, 1))
theorem x_74_10 : Ev d 74 10 L [.int x] μ Q = Q (some (.int x)) μ := e_iret (by decide +kernel : decode (bOf 74) 10 = .ok (.ireturn, 1)) (by decide +kernel)
end Xc
